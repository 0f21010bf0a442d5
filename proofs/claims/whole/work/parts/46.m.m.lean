section ZMq
theorem zmul32 {x y : Int} (hx : -2147483648 ≤ x ∧ x ≤ 2147483647) (hy : -2147483648 ≤ y ∧ y ≤ 2147483647) : -4611686016279904256 ≤ x * y ∧ x * y ≤ 4611686018427387904 := by
  have hu := zbox_mul (a := x) (b := y) (A := 2147483648) (B := 2147483648) (by omega) (by omega) (C := 4611686018427387904) (by decide)
  refine ⟨?_, hu.2⟩
  by_cases h : 0 ≤ x
  · have h1 : x * (-2147483648) ≤ x * y := Int.mul_le_mul_of_nonneg_left hy.1 h
    omega
  · have h1 : (-x) * y ≤ (-x) * 2147483647 := Int.mul_le_mul_of_nonneg_left hy.2 (by omega)
    rw [Int.neg_mul, Int.neg_mul] at h1
    omega
theorem zbk_0 {i : Nat} {x : Int} (h : i % 157 = 0) : zbk i x ↔ 0 ≤ x ∧ x ≤ 6 := by unfold zbk; rw [if_pos h]
theorem zbk_1 {i : Nat} {x : Int} (h : 1 ≤ i % 157 ∧ i % 157 < 7) : zbk i x ↔ 0 ≤ x ∧ x ≤ 1073741823 := by unfold zbk; rw [if_neg (by omega), if_pos (by omega)]
theorem zbk_7 {i : Nat} {x : Int} (h : 7 ≤ i % 157) : zbk i x ↔ 0 ≤ x ∧ x ≤ 30 := by unfold zbk; rw [if_neg (by omega), if_neg (by omega)]
theorem zbk_s {i j : Nat} {x : Int} (h : i % 157 = j % 157) (hx : zbk j x) : zbk i x := by unfold zbk at hx ⊢; rw [h]; exact hx
def zm_most_W29 (a : Int) (b : Int) (what : Int) : Nat → Int → Int → Int → zS2 → (Int × zS2) ⊕ (Int × Int × Int × zS2)
  | 0, m29, q29, p29, S29 => .inr (m29, q29, p29, S29)
  | fu29 + 1, m29, q29, p29, S29 => zlet (zm_points S29) (fun z32 => (if z32 ≤ p29 then .inr (m29, q29, p29, S29) else zlet (zm_areOn S29 a b p29) (fun z43 => (if z43 = 0 then zm_most_W29 a b what fu29 m29 q29 (p29 + 1) S29 else zlet (zm_timesAt S29 a b p29) (fun q57 => (fun (z57 : Int) (S57 : zS2) => (if z57 = -2 then (if what = 0 then .inl ((-2, S57)) else .inl ((p29, S57))) else (if m29 < z57 then zm_most_W29 a b what fu29 z57 p29 (p29 + 1) S57 else zm_most_W29 a b what fu29 m29 q29 (p29 + 1) S57))) q57.1 q57.2)))))
def zm_most (S : zS2) (a : Int) (b : Int) (what : Int) : Int × zS2 := zlet (zm_areCurves S a b) (fun z3 => (if z3 = 0 then (-1, S) else zlet (zm_isIn what 0 1) (fun z12 => (if z12 = 0 then (-1, S) else zsum (zm_most_W29 a b what ((995 : Nat)) 0 (-1) 0 S) (fun r29 => r29) (fun q29 => (fun (m29 : Int) (q29 : Int) (p29 : Int) (S29 : zS2) => (if what = 0 then (m29, S29) else (q29, S29))) q29.1 q29.2.1 q29.2.2.1 q29.2.2.2)))))
set_option maxRecDepth 100000 in
set_option maxHeartbeats 4000000 in
theorem zk_most (l : Launch) {D : va_G} {cI cJ cZ cP cS cM : ClassId} {L : List Nat} {sz : Nat} {f : Nat → va_E} (o : Nat) (S : zS2) (a : Int) (b : Int) (what : Int) (hI : mI S) (ha : -2147483648 ≤ a ∧ a ≤ 2147483647) (hb : -2147483648 ≤ b ∧ b ≤ 2147483647) (hwhat : -2147483648 ≤ what ∧ what ≤ 2147483647) (hH : zqH S) : zMi l yX12_most wsX12_most 7 180 D (zT cI cJ cZ cP cS cM) L sz (zMO cI cJ o S f) [.ref o, .int (zI a), .int (zI b), .int (zI what)] (fun zv gv => zv = (zm_most S a b what).1 ∧ gv = zMO cI cJ o (zm_most S a b what).2 f ∧ mI (zm_most S a b what).2 ∧ (∀ kk ii : Nat, ¬ (kk = 0 ∧ ii = 33) ∧ ¬ kk = 13 ∧ ¬ kk = 14 ∧ ¬ kk = 15 ∧ ¬ kk = 16 ∧ ¬ kk = 17 ∧ ¬ kk = 18 ∧ ¬ kk = 19 ∧ ¬ (kk = 3 ∧ 3500 ≤ (ii : Int)) → (zm_most S a b what).2 kk ii = S kk ii) ∧ True) := by
  refine zWalk.met (nL := 8) (ret := (some .int)) (cc := cX12_most) (by decide) rfl (Nat.le_of_ble_eq_true rfl) ?_
  intro pg en st mi ag bl mt cd ls CX hW hl
  have CX : zC pg st mi ag mt cd cX12_most 8 (some .int) RX12 wsX12_most := CX
  generalize hQ : MQ bl _ ag st 0 0 _ = Q
  have hX0 := CX.1
  have hB0 := CX.2.1
  have hl : lv_has ls 8 [(0, .ref o), (1, .int (zI a)), (2, .int (zI b)), (3, .int (zI what))] := hl
  obtain ⟨H, eH⟩ : ∃ H, H = st.heap := ⟨_, rfl⟩
  obtain ⟨locs, eL⟩ : ∃ L : List Loc, L = [] := ⟨_, rfl⟩
  have hW : zW D (zT cI cJ cZ cP cS cM) L (zQ L sz) st (zMO cI cJ o S f) st.heap H locs := by rw [eH, eL]; exact hW
  suffices hgo : W pg l en ({ frames := 7, cells := 0, slots := 0, locals := 180 } : Room) st mi ag bl mt cd H locs 0 0 Q (F0 mi 0 ls []) by rw [eH, eL] at hgo; exact hgo
  clear eH eL
  have hpb := hI.s10
  refine lv_aload_n hX0 hB0 dX12_most_0 rfl (lv_at hl 0 rfl) ?_
  refine lv_iload_n hX0 hB0 dX12_most_1 rfl (lv_at hl 1 rfl) ?_
  refine lv_iload_n hX0 hB0 dX12_most_2 rfl (lv_at hl 2 rfl) ?_
  refine z_calli hW (va_runV (C := RX12) (As := [.int (zI a), .int (zI b)]) (rest := []) CX.fix (zk_areCurves l o S a b hI (by constructor <;> omega) (by constructor <;> omega)) (cwV 2 CX.fix.2.2.2.2 gX12_most_X12_areCurves rfl rfl rfl (by decide +kernel) ⟨Nat.le_of_ble_eq_true rfl, Nat.le_of_ble_eq_true rfl⟩) (z_preV CX hW (r := (RX12, TX12, 37)) zMO_0 rfl) rfl rfl hl.1 rfl (lv_room (Nat.le_of_ble_eq_true rfl)) dX12_most_3 ⟨Nat.zero_le _, Nat.zero_le _⟩) (fun z3 gn H locs hok hW => ?_)
  obtain ⟨hz3, hg, hq3⟩ := hok
  rw [hg] at hW
  clear hg
  have e3 : zm_areCurves S a b = z3 := hz3.symm
  clear hz3
  refine z_if_eq (tgt := 18) CX dX12_most_6 (by decide) (by constructor <;> omega) (fun c_6 => ?_) (fun c_6 => ?_)
  ·
    refine lv_iconst (v := zI (-1)) hX0 hB0 dX12_most_18 rfl ?_
    have hE : zm_most S a b what = (-1, S) := by unfold zm_most; exact zlet_e e3 (zif_t c_6 rfl)
    have hFr : ∀ kk ii : Nat, ¬ (kk = 0 ∧ ii = 33) ∧ ¬ kk = 13 ∧ ¬ kk = 14 ∧ ¬ kk = 15 ∧ ¬ kk = 16 ∧ ¬ kk = 17 ∧ ¬ kk = 18 ∧ ¬ kk = 19 ∧ ¬ (kk = 3 ∧ 3500 ≤ (ii : Int)) → S kk ii = S kk ii := fun kk ii hk => rfl
    rw [← hQ]
    exact z_iret (z := -1) CX hW (by rw [hE]; exact ⟨rfl, rfl, hI, hFr, trivial⟩) rfl dX12_most_19
  ·
    refine lv_iload_n hX0 hB0 dX12_most_9 rfl (lv_at hl 3 rfl) ?_
    refine lv_iconst (v := zI 0) hX0 hB0 dX12_most_10 rfl ?_
    refine lv_iconst (v := zI 1) hX0 hB0 dX12_most_11 rfl ?_
    refine z_calli hW (va_runS (As := [.int (zI what), .int (zI 0), .int (zI 1)]) (rest := []) CX.fix (zk_isIn l (f := zMO cI cJ o S f) what 0 1 (by constructor <;> omega) (by constructor <;> omega) (by constructor <;> omega)) (va_cwS 3 CX.fix.2.2.2.2 gX12_most_X12_isIn rfl rfl rfl (by decide +kernel) ⟨Nat.le_of_ble_eq_true rfl, Nat.le_of_ble_eq_true rfl⟩) (z_preS CX hW) rfl rfl hl.1 rfl (lv_room (Nat.le_of_ble_eq_true rfl)) dX12_most_12 ⟨Nat.zero_le _, Nat.zero_le _⟩) (fun z12 gn H locs hok hW => ?_)
    obtain ⟨hz12, hg, hq12⟩ := hok
    rw [hg] at hW
    clear hg
    have e12 : zm_isIn what 0 1 = z12 := hz12.symm
    clear hz12
    refine z_if_ne (tgt := 20) CX dX12_most_15 (by decide) (by constructor <;> omega) (fun c_15 => ?_) (fun c_15 => ?_)
    ·
      refine lv_iconst (v := zI 0) hX0 hB0 dX12_most_20 rfl ?_
      refine lv_istore (lv' := [(4, .int (zI 0)), (0, .ref o), (1, .int (zI a)), (2, .int (zI b)), (3, .int (zI what))]) hX0 hB0 dX12_most_21 hl (by decide) rfl (fun ls hl => ?_)
      refine lv_iconst (v := zI (-1)) hX0 hB0 dX12_most_23 rfl ?_
      refine lv_istore (lv' := [(5, .int (zI (-1))), (4, .int (zI 0)), (0, .ref o), (1, .int (zI a)), (2, .int (zI b)), (3, .int (zI what))]) hX0 hB0 dX12_most_24 hl (by decide) rfl (fun ls hl => ?_)
      refine lv_iconst (v := zI 0) hX0 hB0 dX12_most_26 rfl ?_
      refine lv_istore (lv' := [(6, .int (zI 0)), (5, .int (zI (-1))), (4, .int (zI 0)), (0, .ref o), (1, .int (zI a)), (2, .int (zI b)), (3, .int (zI what))]) hX0 hB0 dX12_most_27 hl (by decide) rfl (fun ls hl => ?_)
      have hXt29 : ∀ (m29 : Int) (q29 : Int) (p29 : Int) (S29 : zS2), (zm_most_W29 a b what ((995 : Nat)) 0 (-1) 0 S = .inr (m29, q29, p29, S29) ∧ mI S29 ∧ (∀ kk ii : Nat, ¬ (kk = 0 ∧ ii = 33) ∧ ¬ kk = 13 ∧ ¬ kk = 14 ∧ ¬ kk = 15 ∧ ¬ kk = 16 ∧ ¬ kk = 17 ∧ ¬ kk = 18 ∧ ¬ kk = 19 ∧ ¬ (kk = 3 ∧ 3500 ≤ (ii : Int)) → S29 kk ii = S kk ii) ∧ 0 ≤ m29 ∧ m29 ≤ 64000 ∧ -1 ≤ q29 ∧ q29 ≤ 992 ∧ 0 ≤ p29 ∧ p29 ≤ 993) → ∀ (H : Heap) (locs : List Loc) (ls : Array Slot), zW D (zT cI cJ cZ cP cS cM) L (zQ L sz) st (zMO cI cJ o S29 f) st.heap H locs → lv_has ls 8 [(4, .int (zI m29)), (5, .int (zI q29)), (6, .int (zI p29)), (0, .ref o), (1, .int (zI a)), (2, .int (zI b)), (3, .int (zI what))] → W pg l en ({ frames := 7, cells := 0, slots := 0, locals := 180 } : Room) st mi ag bl mt cd H locs 0 0 Q (F0 mi 105 ls []) := by
        intro m29 q29 p29 S29 hinv H locs ls hW hl
        obtain ⟨e29, hI29, hf29, ham29, hbm29, haq29, hbq29, hap29, hbp29⟩ := hinv
        have hp29 := hI29.s10
        have t29_10 : S29 0 10 = S 0 10 := hf29 0 10 (by omega)
        have t29_13 : S29 0 13 = S 0 13 := hf29 0 13 (by omega)
        refine lv_iload_n hX0 hB0 dX12_most_105 rfl (lv_at hl 6 rfl) ?_
        refine z_if_ne (tgt := 114) CX dX12_most_106 (by decide) (by constructor <;> omega) (fun c_106 => ?_) (fun c_106 => ?_)
        ·
          refine lv_iload hX0 hB0 dX12_most_114 (lv_at hl 1 rfl) ?_
          have hE : zm_most S a b what = (q29, S29) := by unfold zm_most; exact zlet_e e3 (zif_f c_6 (zlet_e e12 (zif_f c_15 (zsum_r e29 (zif_f c_106 rfl)))))
          have hFr : ∀ kk ii : Nat, ¬ (kk = 0 ∧ ii = 33) ∧ ¬ kk = 13 ∧ ¬ kk = 14 ∧ ¬ kk = 15 ∧ ¬ kk = 16 ∧ ¬ kk = 17 ∧ ¬ kk = 18 ∧ ¬ kk = 19 ∧ ¬ (kk = 3 ∧ 3500 ≤ (ii : Int)) → S29 kk ii = S kk ii := fun kk ii hk => (hf29 kk ii (by omega))
          rw [← hQ]
          exact z_iret (z := q29) CX hW (by rw [hE]; exact ⟨rfl, rfl, hI29, hFr, trivial⟩) rfl dX12_most_116
        ·
          refine lv_iload hX0 hB0 dX12_most_109 (lv_at hl 0 rfl) ?_
          refine lv_goto (tgt := 116) hX0 hB0 dX12_most_111 (by decide) ?_
          have hE : zm_most S a b what = (m29, S29) := by unfold zm_most; exact zlet_e e3 (zif_f c_6 (zlet_e e12 (zif_f c_15 (zsum_r e29 (zif_t c_106 rfl)))))
          have hFr : ∀ kk ii : Nat, ¬ (kk = 0 ∧ ii = 33) ∧ ¬ kk = 13 ∧ ¬ kk = 14 ∧ ¬ kk = 15 ∧ ¬ kk = 16 ∧ ¬ kk = 17 ∧ ¬ kk = 18 ∧ ¬ kk = 19 ∧ ¬ (kk = 3 ∧ 3500 ≤ (ii : Int)) → S29 kk ii = S kk ii := fun kk ii hk => (hf29 kk ii (by omega))
          rw [← hQ]
          exact z_iret (z := m29) CX hW (by rw [hE]; exact ⟨rfl, rfl, hI29, hFr, trivial⟩) rfl dX12_most_116
      have hL29 : ∀ (fu : Nat) (m29 : Int) (q29 : Int) (p29 : Int) (S29 : zS2), (zm_most_W29 a b what ((995 : Nat)) 0 (-1) 0 S = zm_most_W29 a b what fu m29 q29 p29 S29 ∧ mI S29 ∧ (∀ kk ii : Nat, ¬ (kk = 0 ∧ ii = 33) ∧ ¬ kk = 13 ∧ ¬ kk = 14 ∧ ¬ kk = 15 ∧ ¬ kk = 16 ∧ ¬ kk = 17 ∧ ¬ kk = 18 ∧ ¬ kk = 19 ∧ ¬ (kk = 3 ∧ 3500 ≤ (ii : Int)) → S29 kk ii = S kk ii) ∧ 0 ≤ m29 ∧ m29 ≤ 64000 ∧ -1 ≤ q29 ∧ q29 ≤ 992 ∧ 0 ≤ p29 ∧ p29 ≤ 993) → (994 - p29).toNat < fu → ∀ (H : Heap) (locs : List Loc) (ls : Array Slot), zW D (zT cI cJ cZ cP cS cM) L (zQ L sz) st (zMO cI cJ o S29 f) st.heap H locs → lv_has ls 8 [(4, .int (zI m29)), (5, .int (zI q29)), (6, .int (zI p29)), (0, .ref o), (1, .int (zI a)), (2, .int (zI b)), (3, .int (zI what))] → W pg l en ({ frames := 7, cells := 0, slots := 0, locals := 180 } : Room) st mi ag bl mt cd H locs 0 0 Q (F0 mi 29 ls []) := by
        intro fu
        induction fu with
        | zero => intro m29 q29 p29 S29 _ hfu; exact absurd hfu (Nat.not_lt_zero _)
        | succ fu ih29 =>
          intro m29 q29 p29 S29 hinv hfu29 H locs ls hW hl
          obtain ⟨hz29, hI29, hf29, ham29, hbm29, haq29, hbq29, hap29, hbp29⟩ := hinv
          have hp29 := hI29.s10
          have t29_10 : S29 0 10 = S 0 10 := hf29 0 10 (by omega)
          have t29_13 : S29 0 13 = S 0 13 := hf29 0 13 (by omega)
          refine lv_iload hX0 hB0 dX12_most_29 (lv_at hl 2 rfl) ?_
          refine lv_aload_n hX0 hB0 dX12_most_31 rfl (lv_at hl 3 rfl) ?_
          refine z_calli hW (va_runV (C := RX12) (As := []) (rest := [.int (zI p29)]) CX.fix (zk_points l o S29  hI29 ) (cwV 0 CX.fix.2.2.2.2 gX12_most_X12_points rfl rfl rfl (by decide +kernel) ⟨Nat.le_of_ble_eq_true rfl, Nat.le_of_ble_eq_true rfl⟩) (z_preV CX hW (r := (RX12, TX12, 37)) zMO_0 rfl) rfl rfl hl.1 rfl (lv_room (Nat.le_of_ble_eq_true rfl)) dX12_most_32 ⟨Nat.zero_le _, Nat.zero_le _⟩) (fun z32 gn H locs hok hW => ?_)
          obtain ⟨hz32, hg, hq32⟩ := hok
          rw [hg] at hW
          clear hg
          have e32 : zm_points S29 = z32 := hz32.symm
          clear hz32
          refine z_icmp_ge (tgt := 105) CX dX12_most_35 (by decide) (by constructor <;> omega) (by constructor <;> omega) (fun c_35 => ?_) (fun c_35 => ?_)
          ·
            exact hXt29 m29 q29 p29 S29 ⟨hz29.trans (by rw [zm_most_W29]; exact zlet_e e32 (zif_t c_35 rfl)), hI29, fun kk ii hk => (hf29 kk ii (by omega)), by omega, by omega, by omega, by omega, by omega, by omega⟩ H locs ls hW (lv_sub hl [0, 1, 2, 3, 4, 5, 6] rfl)
          ·
            have d_35 : ¬ z32 ≤ p29 := by omega
            refine lv_aload_n hX0 hB0 dX12_most_38 rfl (lv_at hl 3 rfl) ?_
            refine lv_iload_n hX0 hB0 dX12_most_39 rfl (lv_at hl 4 rfl) ?_
            refine lv_iload_n hX0 hB0 dX12_most_40 rfl (lv_at hl 5 rfl) ?_
            refine lv_iload hX0 hB0 dX12_most_41 (lv_at hl 2 rfl) ?_
            refine z_calli hW (va_runV (C := RX12) (As := [.int (zI a), .int (zI b), .int (zI p29)]) (rest := []) CX.fix (zk_areOn l o S29 a b p29 hI29 (by constructor <;> omega) (by constructor <;> omega) (by constructor <;> omega)) (cwV 3 CX.fix.2.2.2.2 gX12_most_X12_areOn rfl rfl rfl (by decide +kernel) ⟨Nat.le_of_ble_eq_true rfl, Nat.le_of_ble_eq_true rfl⟩) (z_preV CX hW (r := (RX12, TX12, 37)) zMO_0 rfl) rfl rfl hl.1 rfl (lv_room (Nat.le_of_ble_eq_true rfl)) dX12_most_43 ⟨Nat.zero_le _, Nat.zero_le _⟩) (fun z43 gn H locs hok hW => ?_)
            obtain ⟨hz43, hg, hq43⟩ := hok
            rw [hg] at hW
            clear hg
            have e43 : zm_areOn S29 a b p29 = z43 := hz43.symm
            clear hz43
            refine z_if_ne (tgt := 52) CX dX12_most_46 (by decide) (by constructor <;> omega) (fun c_46 => ?_) (fun c_46 => ?_)
            ·
              refine lv_aload_n hX0 hB0 dX12_most_52 rfl (lv_at hl 3 rfl) ?_
              refine lv_iload_n hX0 hB0 dX12_most_53 rfl (lv_at hl 4 rfl) ?_
              refine lv_iload_n hX0 hB0 dX12_most_54 rfl (lv_at hl 5 rfl) ?_
              refine lv_iload hX0 hB0 dX12_most_55 (lv_at hl 2 rfl) ?_
              have hFc57 : ∀ kk ii : Nat, ¬ (kk = 0 ∧ ii = 33) ∧ ¬ kk = 13 ∧ ¬ kk = 14 ∧ ¬ kk = 15 ∧ ¬ kk = 16 ∧ ¬ kk = 17 ∧ ¬ kk = 18 ∧ ¬ kk = 19 ∧ ¬ (kk = 3 ∧ 3500 ≤ (ii : Int)) → S29 kk ii = S kk ii := fun kk ii hk => (hf29 kk ii (by omega))
              refine z_calli hW (va_runV (C := RX12) (As := [.int (zI a), .int (zI b), .int (zI p29)]) (rest := []) CX.fix (zk_timesAt l o S29 a b p29 hI29 (by constructor <;> omega) (by constructor <;> omega) (by constructor <;> omega) (hH.mono (hFc57 0 10 (by omega)) (hFc57 0 13 (by omega)) (fun qq hqq => hFc57 3 qq (by omega))) (by omega) (by omega)) (cwV 3 CX.fix.2.2.2.2 gX12_most_X12_timesAt rfl rfl rfl (by decide +kernel) ⟨Nat.le_of_ble_eq_true rfl, Nat.le_of_ble_eq_true rfl⟩) (z_preV CX hW (r := (RX12, TX12, 37)) zMO_0 rfl) rfl rfl hl.1 rfl (lv_room (Nat.le_of_ble_eq_true rfl)) dX12_most_57 ⟨Nat.zero_le _, Nat.zero_le _⟩) (fun z57 gn H locs hok hW => ?_)
              obtain ⟨hz57, hg, hI57, hf57, hq57⟩ := hok
              obtain ⟨S57, hS57⟩ : ∃ q, q = (zm_timesAt S29 a b p29).2 := ⟨_, rfl⟩
              rw [← hS57] at hg hI57 hf57
              have t57_10 : S57 0 10 = S29 0 10 := hf57 0 10 (by omega)
              have t57_13 : S57 0 13 = S29 0 13 := hf57 0 13 (by omega)
              skip
              try rw [← hS57] at hq57
              rw [hg] at hW
              clear hg
              have e57 : zm_timesAt S29 a b p29 = (z57, S57) := Prod.ext hz57.symm hS57.symm
              clear hz57 hS57
              refine lv_istore (lv' := [(7, .int (zI z57)), (4, .int (zI m29)), (5, .int (zI q29)), (6, .int (zI p29)), (0, .ref o), (1, .int (zI a)), (2, .int (zI b)), (3, .int (zI what))]) hX0 hB0 dX12_most_60 hl (by decide) rfl (fun ls hl => ?_)
              refine lv_iload hX0 hB0 dX12_most_62 (lv_at hl 0 rfl) ?_
              refine lv_bipush (v := zI (-2)) hX0 hB0 dX12_most_64 (by decide) ?_
              refine z_icmp_ne (tgt := 81) CX dX12_most_66 (by decide) (by constructor <;> omega) (by constructor <;> omega) (fun c_66 => ?_) (fun c_66 => ?_)
              ·
                refine lv_iload hX0 hB0 dX12_most_81 (lv_at hl 0 rfl) ?_
                refine lv_iload hX0 hB0 dX12_most_83 (lv_at hl 1 rfl) ?_
                refine z_icmp_gt (tgt := 91) CX dX12_most_85 (by decide) (by constructor <;> omega) (by constructor <;> omega) (fun c_85 => ?_) (fun c_85 => ?_)
                ·
                  refine lv_iload hX0 hB0 dX12_most_91 (lv_at hl 0 rfl) ?_
                  refine lv_istore (lv' := [(4, .int (zI z57)), (7, .int (zI z57)), (5, .int (zI q29)), (6, .int (zI p29)), (0, .ref o), (1, .int (zI a)), (2, .int (zI b)), (3, .int (zI what))]) hX0 hB0 dX12_most_93 hl (by decide) rfl (fun ls hl => ?_)
                  refine lv_iload hX0 hB0 dX12_most_95 (lv_at hl 3 rfl) ?_
                  refine lv_istore (lv' := [(5, .int (zI p29)), (4, .int (zI z57)), (7, .int (zI z57)), (6, .int (zI p29)), (0, .ref o), (1, .int (zI a)), (2, .int (zI b)), (3, .int (zI what))]) hX0 hB0 dX12_most_97 hl (by decide) rfl (fun ls hl => ?_)
                  refine lv_iinc (v := zI (p29 + 1)) (lv' := [(6, .int (zI (p29 + 1))), (5, .int (zI p29)), (4, .int (zI z57)), (7, .int (zI z57)), (0, .ref o), (1, .int (zI a)), (2, .int (zI b)), (3, .int (zI what))]) hX0 hB0 dX12_most_99 hl (k := 3) rfl (zI_add _ _) (by decide) rfl (fun ls hl => ?_)
                  refine lv_goto (tgt := 29) hX0 hB0 dX12_most_102 (by decide) ?_
                  exact ih29 z57 p29 (p29 + 1) S57 ⟨hz29.trans (by rw [zm_most_W29]; exact zlet_e e32 (zif_f d_35 (zlet_e e43 (zif_f c_46 (zlet_e e57 (zif_f c_66 (zif_t c_85 rfl))))))), hI57, fun kk ii hk => ((hf57 kk ii (by omega))).trans (hf29 kk ii (by omega)), by omega, by omega, by omega, by omega, by omega, by omega⟩ (by omega) H locs ls hW (lv_sub hl [2, 1, 0, 4, 5, 6, 7] rfl)
                ·
                  have d_85 : ¬ m29 < z57 := by omega
                  refine lv_goto (tgt := 99) hX0 hB0 dX12_most_88 (by decide) ?_
                  refine lv_iinc (v := zI (p29 + 1)) (lv' := [(6, .int (zI (p29 + 1))), (7, .int (zI z57)), (4, .int (zI m29)), (5, .int (zI q29)), (0, .ref o), (1, .int (zI a)), (2, .int (zI b)), (3, .int (zI what))]) hX0 hB0 dX12_most_99 hl (k := 3) rfl (zI_add _ _) (by decide) rfl (fun ls hl => ?_)
                  refine lv_goto (tgt := 29) hX0 hB0 dX12_most_102 (by decide) ?_
                  exact ih29 m29 q29 (p29 + 1) S57 ⟨hz29.trans (by rw [zm_most_W29]; exact zlet_e e32 (zif_f d_35 (zlet_e e43 (zif_f c_46 (zlet_e e57 (zif_f c_66 (zif_f d_85 rfl))))))), hI57, fun kk ii hk => ((hf57 kk ii (by omega))).trans (hf29 kk ii (by omega)), by omega, by omega, by omega, by omega, by omega, by omega⟩ (by omega) H locs ls hW (lv_sub hl [2, 3, 0, 4, 5, 6, 7] rfl)
              ·
                refine lv_iload_n hX0 hB0 dX12_most_69 rfl (lv_at hl 7 rfl) ?_
                refine z_if_ne (tgt := 78) CX dX12_most_70 (by decide) (by constructor <;> omega) (fun c_70 => ?_) (fun c_70 => ?_)
                ·
                  refine lv_iload hX0 hB0 dX12_most_78 (lv_at hl 3 rfl) ?_
                  have hE : zm_most S a b what = (p29, S57) := by unfold zm_most; exact zlet_e e3 (zif_f c_6 (zlet_e e12 (zif_f c_15 (zsum_l (hz29.trans (by rw [zm_most_W29]; exact zlet_e e32 (zif_f d_35 (zlet_e e43 (zif_f c_46 (zlet_e e57 (zif_t c_66 (zif_f c_70 rfl)))))))) rfl))))
                  have hFr : ∀ kk ii : Nat, ¬ (kk = 0 ∧ ii = 33) ∧ ¬ kk = 13 ∧ ¬ kk = 14 ∧ ¬ kk = 15 ∧ ¬ kk = 16 ∧ ¬ kk = 17 ∧ ¬ kk = 18 ∧ ¬ kk = 19 ∧ ¬ (kk = 3 ∧ 3500 ≤ (ii : Int)) → S57 kk ii = S kk ii := fun kk ii hk => ((hf57 kk ii (by omega))).trans (hf29 kk ii (by omega))
                  rw [← hQ]
                  exact z_iret (z := p29) CX hW (by rw [hE]; exact ⟨rfl, rfl, hI57, hFr, trivial⟩) rfl dX12_most_80
                ·
                  refine lv_bipush (v := zI (-2)) hX0 hB0 dX12_most_73 (by decide) ?_
                  refine lv_goto (tgt := 80) hX0 hB0 dX12_most_75 (by decide) ?_
                  have hE : zm_most S a b what = (-2, S57) := by unfold zm_most; exact zlet_e e3 (zif_f c_6 (zlet_e e12 (zif_f c_15 (zsum_l (hz29.trans (by rw [zm_most_W29]; exact zlet_e e32 (zif_f d_35 (zlet_e e43 (zif_f c_46 (zlet_e e57 (zif_t c_66 (zif_t c_70 rfl)))))))) rfl))))
                  have hFr : ∀ kk ii : Nat, ¬ (kk = 0 ∧ ii = 33) ∧ ¬ kk = 13 ∧ ¬ kk = 14 ∧ ¬ kk = 15 ∧ ¬ kk = 16 ∧ ¬ kk = 17 ∧ ¬ kk = 18 ∧ ¬ kk = 19 ∧ ¬ (kk = 3 ∧ 3500 ≤ (ii : Int)) → S57 kk ii = S kk ii := fun kk ii hk => ((hf57 kk ii (by omega))).trans (hf29 kk ii (by omega))
                  rw [← hQ]
                  exact z_iret (z := -2) CX hW (by rw [hE]; exact ⟨rfl, rfl, hI57, hFr, trivial⟩) rfl dX12_most_80
            ·
              refine lv_goto (tgt := 99) hX0 hB0 dX12_most_49 (by decide) ?_
              refine lv_iinc (v := zI (p29 + 1)) (lv' := [(6, .int (zI (p29 + 1))), (4, .int (zI m29)), (5, .int (zI q29)), (0, .ref o), (1, .int (zI a)), (2, .int (zI b)), (3, .int (zI what))]) hX0 hB0 dX12_most_99 hl (k := 2) rfl (zI_add _ _) (by decide) rfl (fun ls hl => ?_)
              refine lv_goto (tgt := 29) hX0 hB0 dX12_most_102 (by decide) ?_
              exact ih29 m29 q29 (p29 + 1) S29 ⟨hz29.trans (by rw [zm_most_W29]; exact zlet_e e32 (zif_f d_35 (zlet_e e43 (zif_t c_46 rfl)))), hI29, fun kk ii hk => (hf29 kk ii (by omega)), by omega, by omega, by omega, by omega, by omega, by omega⟩ (by omega) H locs ls hW (lv_sub hl [1, 2, 0, 3, 4, 5, 6] rfl)
      exact hL29 _ 0 (-1) 0 S ⟨rfl, hI, fun kk ii hk => rfl, by omega, by omega, by omega, by omega, by omega, by omega⟩ (by omega) H locs ls hW (lv_sub hl [2, 1, 0, 3, 4, 5, 6] rfl)
    ·
      refine lv_iconst (v := zI (-1)) hX0 hB0 dX12_most_18 rfl ?_
      have hE : zm_most S a b what = (-1, S) := by unfold zm_most; exact zlet_e e3 (zif_f c_6 (zlet_e e12 (zif_t c_15 rfl)))
      have hFr : ∀ kk ii : Nat, ¬ (kk = 0 ∧ ii = 33) ∧ ¬ kk = 13 ∧ ¬ kk = 14 ∧ ¬ kk = 15 ∧ ¬ kk = 16 ∧ ¬ kk = 17 ∧ ¬ kk = 18 ∧ ¬ kk = 19 ∧ ¬ (kk = 3 ∧ 3500 ≤ (ii : Int)) → S kk ii = S kk ii := fun kk ii hk => rfl
      rw [← hQ]
      exact z_iret (z := -1) CX hW (by rw [hE]; exact ⟨rfl, rfl, hI, hFr, trivial⟩) rfl dX12_most_19
def zm_knot_W58 (pt : Int) (i27 : Int) : Nat → Int → Int → zS2 → Int × Int × zS2
  | 0, s58, b58, S58 => (s58, b58, S58)
  | fu58 + 1, s58, b58, S58 => (if S58 0 13 ≤ b58 then (s58, b58, S58) else (if s58 = -2 then (s58, b58, S58) else zlet (zm_valueAt S58 b58 pt) (fun z78 => (if z78 = 0 then zlet (zm_timesAt S58 i27 b58 pt) (fun q93 => (fun (z93 : Int) (S93 : zS2) => (if z93 = -2 then zm_knot_W58 pt i27 fu58 (-2) (b58 + 1) S93 else zm_knot_W58 pt i27 fu58 (s58 + z93) (b58 + 1) S93)) q93.1 q93.2) else zm_knot_W58 pt i27 fu58 s58 (b58 + 1) S58))))
def zm_knot_L27 (pt : Int) : Int → (Int × Int × zS2) → (Int × Int × zS2) := fun i27 s27 => (fun (n27 : Int) (s27 : Int) (S27 : zS2) => zlet (zm_valueAt S27 i27 pt) (fun z40 => (if z40 = 0 then zlet (zm_knot_W58 pt i27 ((7 : Nat)) s27 (i27 + 1) S27) (fun q58 => (fun (s58 : Int) (b58 : Int) (S58 : zS2) => (n27 + 1, s58, S58)) q58.1 q58.2.1 q58.2.2) else (n27, s27, S27)))) s27.1 s27.2.1 s27.2.2
def zm_knot (S : zS2) (pt : Int) (what : Int) : Int × zS2 := zlet (zm_isPoint S pt) (fun z2 => (if z2 = 0 then (-1, S) else zlet (zm_isIn what 0 1) (fun z11 => (if z11 = 0 then (-1, S) else zlet (zfor (zm_knot_L27 pt) 0 (0, 0, S) ((S 0 13 - 1) + 1 - 0).toNat) (fun q27 => (fun (n27 : Int) (s27 : Int) (S27 : zS2) => (if what = 0 then (n27, S27) else (s27, S27))) q27.1 q27.2.1 q27.2.2)))))
set_option maxRecDepth 100000 in
set_option maxHeartbeats 4000000 in
theorem zk_knot (l : Launch) {D : va_G} {cI cJ cZ cP cS cM : ClassId} {L : List Nat} {sz : Nat} {f : Nat → va_E} (o : Nat) (S : zS2) (pt : Int) (what : Int) (hI : mI S) (hpt : -2147483648 ≤ pt ∧ pt ≤ 2147483647) (hwhat : -2147483648 ≤ what ∧ what ≤ 2147483647) (hH : zqH S) : zMi l yX12_knot wsX12_knot 7 180 D (zT cI cJ cZ cP cS cM) L sz (zMO cI cJ o S f) [.ref o, .int (zI pt), .int (zI what)] (fun zv gv => zv = (zm_knot S pt what).1 ∧ gv = zMO cI cJ o (zm_knot S pt what).2 f ∧ mI (zm_knot S pt what).2 ∧ (∀ kk ii : Nat, ¬ (kk = 0 ∧ ii = 33) ∧ ¬ kk = 13 ∧ ¬ kk = 14 ∧ ¬ kk = 15 ∧ ¬ kk = 16 ∧ ¬ kk = 17 ∧ ¬ kk = 18 ∧ ¬ kk = 19 ∧ ¬ (kk = 3 ∧ 3500 ≤ (ii : Int)) → (zm_knot S pt what).2 kk ii = S kk ii) ∧ True) := by
  refine zWalk.met (nL := 8) (ret := (some .int)) (cc := cX12_knot) (by decide) rfl (Nat.le_of_ble_eq_true rfl) ?_
  intro pg en st mi ag bl mt cd ls CX hW hl
  have CX : zC pg st mi ag mt cd cX12_knot 8 (some .int) RX12 wsX12_knot := CX
  generalize hQ : MQ bl _ ag st 0 0 _ = Q
  have hX0 := CX.1
  have hB0 := CX.2.1
  have hl : lv_has ls 8 [(0, .ref o), (1, .int (zI pt)), (2, .int (zI what))] := hl
  obtain ⟨H, eH⟩ : ∃ H, H = st.heap := ⟨_, rfl⟩
  obtain ⟨locs, eL⟩ : ∃ L : List Loc, L = [] := ⟨_, rfl⟩
  have hW : zW D (zT cI cJ cZ cP cS cM) L (zQ L sz) st (zMO cI cJ o S f) st.heap H locs := by rw [eH, eL]; exact hW
  suffices hgo : W pg l en ({ frames := 7, cells := 0, slots := 0, locals := 180 } : Room) st mi ag bl mt cd H locs 0 0 Q (F0 mi 0 ls []) by rw [eH, eL] at hgo; exact hgo
  clear eH eL
  have hpb := hI.s10
  refine lv_aload_n hX0 hB0 dX12_knot_0 rfl (lv_at hl 0 rfl) ?_
  refine lv_iload_n hX0 hB0 dX12_knot_1 rfl (lv_at hl 1 rfl) ?_
  refine z_calli hW (va_runV (C := RX12) (As := [.int (zI pt)]) (rest := []) CX.fix (zk_isPoint l o S pt hI (by constructor <;> omega)) (cwV 1 CX.fix.2.2.2.2 gX12_knot_X12_isPoint rfl rfl rfl (by decide +kernel) ⟨Nat.le_of_ble_eq_true rfl, Nat.le_of_ble_eq_true rfl⟩) (z_preV CX hW (r := (RX12, TX12, 37)) zMO_0 rfl) rfl rfl hl.1 rfl (lv_room (Nat.le_of_ble_eq_true rfl)) dX12_knot_2 ⟨Nat.zero_le _, Nat.zero_le _⟩) (fun z2 gn H locs hok hW => ?_)
  obtain ⟨hz2, hg, hq2⟩ := hok
  rw [hg] at hW
  clear hg
  have e2 : zm_isPoint S pt = z2 := hz2.symm
  clear hz2
  refine z_if_eq (tgt := 17) CX dX12_knot_5 (by decide) (by constructor <;> omega) (fun c_5 => ?_) (fun c_5 => ?_)
  ·
    refine lv_iconst (v := zI (-1)) hX0 hB0 dX12_knot_17 rfl ?_
    have hE : zm_knot S pt what = (-1, S) := by unfold zm_knot; exact zlet_e e2 (zif_t c_5 rfl)
    have hFr : ∀ kk ii : Nat, ¬ (kk = 0 ∧ ii = 33) ∧ ¬ kk = 13 ∧ ¬ kk = 14 ∧ ¬ kk = 15 ∧ ¬ kk = 16 ∧ ¬ kk = 17 ∧ ¬ kk = 18 ∧ ¬ kk = 19 ∧ ¬ (kk = 3 ∧ 3500 ≤ (ii : Int)) → S kk ii = S kk ii := fun kk ii hk => rfl
    rw [← hQ]
    exact z_iret (z := -1) CX hW (by rw [hE]; exact ⟨rfl, rfl, hI, hFr, trivial⟩) rfl dX12_knot_18
  ·
    refine lv_iload_n hX0 hB0 dX12_knot_8 rfl (lv_at hl 2 rfl) ?_
    refine lv_iconst (v := zI 0) hX0 hB0 dX12_knot_9 rfl ?_
    refine lv_iconst (v := zI 1) hX0 hB0 dX12_knot_10 rfl ?_
    refine z_calli hW (va_runS (As := [.int (zI what), .int (zI 0), .int (zI 1)]) (rest := []) CX.fix (zk_isIn l (f := zMO cI cJ o S f) what 0 1 (by constructor <;> omega) (by constructor <;> omega) (by constructor <;> omega)) (va_cwS 3 CX.fix.2.2.2.2 gX12_knot_X12_isIn rfl rfl rfl (by decide +kernel) ⟨Nat.le_of_ble_eq_true rfl, Nat.le_of_ble_eq_true rfl⟩) (z_preS CX hW) rfl rfl hl.1 rfl (lv_room (Nat.le_of_ble_eq_true rfl)) dX12_knot_11 ⟨Nat.zero_le _, Nat.zero_le _⟩) (fun z11 gn H locs hok hW => ?_)
    obtain ⟨hz11, hg, hq11⟩ := hok
    rw [hg] at hW
    clear hg
    have e11 : zm_isIn what 0 1 = z11 := hz11.symm
    clear hz11
    refine z_if_ne (tgt := 19) CX dX12_knot_14 (by decide) (by constructor <;> omega) (fun c_14 => ?_) (fun c_14 => ?_)
    ·
      refine lv_iconst (v := zI 0) hX0 hB0 dX12_knot_19 rfl ?_
      refine lv_istore_n (lv' := [(3, .int (zI 0)), (0, .ref o), (1, .int (zI pt)), (2, .int (zI what))]) hX0 hB0 dX12_knot_20 rfl hl (by decide) rfl (fun ls hl => ?_)
      refine lv_iconst (v := zI 0) hX0 hB0 dX12_knot_21 rfl ?_
      refine lv_istore (lv' := [(4, .int (zI 0)), (3, .int (zI 0)), (0, .ref o), (1, .int (zI pt)), (2, .int (zI what))]) hX0 hB0 dX12_knot_22 hl (by decide) rfl (fun ls hl => ?_)
      refine lv_iconst (v := zI 0) hX0 hB0 dX12_knot_24 rfl ?_
      refine lv_istore (lv' := [(5, .int (zI 0)), (4, .int (zI 0)), (3, .int (zI 0)), (0, .ref o), (1, .int (zI pt)), (2, .int (zI what))]) hX0 hB0 dX12_knot_25 hl (by decide) rfl (fun ls hl => ?_)
      have hL27 : ∀ (fu : Nat) (i27 : Int) (n27 : Int) (s27 : Int) (S27 : zS2), ((0 ≤ i27 ∧ i27 ≤ S 0 13 - 1 + 1) ∧ zfor (zm_knot_L27 pt) 0 (0, 0, S) (i27 - 0).toNat = (n27, s27, S27) ∧ mI S27 ∧ (∀ kk ii : Nat, ¬ (kk = 0 ∧ ii = 33) ∧ ¬ kk = 13 ∧ ¬ kk = 14 ∧ ¬ kk = 15 ∧ ¬ kk = 16 ∧ ¬ kk = 17 ∧ ¬ kk = 18 ∧ ¬ kk = 19 ∧ ¬ (kk = 3 ∧ 3500 ≤ (ii : Int)) → S27 kk ii = S kk ii) ∧ 0 ≤ n27 ∧ n27 ≤ 6 ∧ (n27 ≤ i27 ∧ -24000 * i27 - 2 ≤ s27 ∧ s27 ≤ 384000 * i27)) → ((S 0 13 - 1) + 1 - i27).toNat < fu → ∀ (H : Heap) (locs : List Loc) (ls : Array Slot), zW D (zT cI cJ cZ cP cS cM) L (zQ L sz) st (zMO cI cJ o S27 f) st.heap H locs → lv_has ls 8 [(5, .int (zI i27)), (3, .int (zI n27)), (4, .int (zI s27)), (0, .ref o), (1, .int (zI pt)), (2, .int (zI what))] → W pg l en ({ frames := 7, cells := 0, slots := 0, locals := 180 } : Room) st mi ag bl mt cd H locs 0 0 Q (F0 mi 27 ls []) := by
        intro fu
        induction fu with
        | zero => intro i27 n27 s27 S27 _ hfu; exact absurd hfu (Nat.not_lt_zero _)
        | succ fu ih27 =>
          intro i27 n27 s27 S27 hinv hfu27 H locs ls hW hl
          obtain ⟨⟨hlo27, hhi27⟩, hz27, hI27, hf27, han27, hbn27, hv27⟩ := hinv
          have hp27 := hI27.s10
          have t27_10 : S27 0 10 = S 0 10 := hf27 0 10 (by omega)
          have t27_13 : S27 0 13 = S 0 13 := hf27 0 13 (by omega)
          have hb13 := hI27.s13
          refine lv_iload hX0 hB0 dX12_knot_27 (lv_at hl 0 rfl) ?_
          refine lv_aload_n hX0 hB0 dX12_knot_29 rfl (lv_at hl 3 rfl) ?_
          refine z_get (Cn := RX12) (T := TX12) (N := 37) CX hW (v := .int (zI (S27 0 13))) zMO_0 rfl (fun w h => List.mem_cons_of_mem _ (List.mem_append_right _ h)) 13 (by decide) (List.mem_of_getElem? (i := 1) rfl) rfl rfl dX12_knot_30 ?_
          have hr30 := hI27.s13
          refine z_icmp_ge (tgt := 129) CX dX12_knot_33 (by decide) (by constructor <;> omega) (by constructor <;> omega) (fun c_33 => ?_) (fun c_33 => ?_)
          ·
            have e27 : zfor (zm_knot_L27 pt) 0 (0, 0, S) ((S 0 13 - 1) + 1 - 0).toNat = (n27, s27, S27) := by rw [show ((S 0 13 - 1) + 1 - 0).toNat = (i27 - 0).toNat by omega]; exact hz27
            refine lv_iload_n hX0 hB0 dX12_knot_129 rfl (lv_at hl 5 rfl) ?_
            refine z_if_ne (tgt := 137) CX dX12_knot_130 (by decide) (by constructor <;> omega) (fun c_130 => ?_) (fun c_130 => ?_)
            ·
              refine lv_iload hX0 hB0 dX12_knot_137 (lv_at hl 2 rfl) ?_
              have hE : zm_knot S pt what = (s27, S27) := by unfold zm_knot; exact zlet_e e2 (zif_f c_5 (zlet_e e11 (zif_f c_14 (zlet_e e27 (zif_f c_130 rfl)))))
              have hFr : ∀ kk ii : Nat, ¬ (kk = 0 ∧ ii = 33) ∧ ¬ kk = 13 ∧ ¬ kk = 14 ∧ ¬ kk = 15 ∧ ¬ kk = 16 ∧ ¬ kk = 17 ∧ ¬ kk = 18 ∧ ¬ kk = 19 ∧ ¬ (kk = 3 ∧ 3500 ≤ (ii : Int)) → S27 kk ii = S kk ii := fun kk ii hk => (hf27 kk ii (by omega))
              rw [← hQ]
              exact z_iret (z := s27) CX hW (by rw [hE]; exact ⟨rfl, rfl, hI27, hFr, trivial⟩) rfl dX12_knot_139
            ·
              refine lv_iload_n hX0 hB0 dX12_knot_133 rfl (lv_at hl 1 rfl) ?_
              refine lv_goto (tgt := 139) hX0 hB0 dX12_knot_134 (by decide) ?_
              have hE : zm_knot S pt what = (n27, S27) := by unfold zm_knot; exact zlet_e e2 (zif_f c_5 (zlet_e e11 (zif_f c_14 (zlet_e e27 (zif_t c_130 rfl)))))
              have hFr : ∀ kk ii : Nat, ¬ (kk = 0 ∧ ii = 33) ∧ ¬ kk = 13 ∧ ¬ kk = 14 ∧ ¬ kk = 15 ∧ ¬ kk = 16 ∧ ¬ kk = 17 ∧ ¬ kk = 18 ∧ ¬ kk = 19 ∧ ¬ (kk = 3 ∧ 3500 ≤ (ii : Int)) → S27 kk ii = S kk ii := fun kk ii hk => (hf27 kk ii (by omega))
              rw [← hQ]
              exact z_iret (z := n27) CX hW (by rw [hE]; exact ⟨rfl, rfl, hI27, hFr, trivial⟩) rfl dX12_knot_139
          ·
            refine lv_aload_n hX0 hB0 dX12_knot_36 rfl (lv_at hl 3 rfl) ?_
            refine lv_iload hX0 hB0 dX12_knot_37 (lv_at hl 0 rfl) ?_
            refine lv_iload_n hX0 hB0 dX12_knot_39 rfl (lv_at hl 4 rfl) ?_
            refine z_calli hW (va_runV (C := RX12) (As := [.int (zI i27), .int (zI pt)]) (rest := []) CX.fix (zk_valueAt l o S27 i27 pt hI27 (by constructor <;> omega) (by constructor <;> omega)) (cwV 2 CX.fix.2.2.2.2 gX12_knot_X12_valueAt rfl rfl rfl (by decide +kernel) ⟨Nat.le_of_ble_eq_true rfl, Nat.le_of_ble_eq_true rfl⟩) (z_preV CX hW (r := (RX12, TX12, 37)) zMO_0 rfl) rfl rfl hl.1 rfl (lv_room (Nat.le_of_ble_eq_true rfl)) dX12_knot_40 ⟨Nat.zero_le _, Nat.zero_le _⟩) (fun z40 gn H locs hok hW => ?_)
            obtain ⟨hz40, hg, hq40⟩ := hok
            rw [hg] at hW
            clear hg
            have e40 : zm_valueAt S27 i27 pt = z40 := hz40.symm
            clear hz40
            refine z_if_eq (tgt := 49) CX dX12_knot_43 (by decide) (by constructor <;> omega) (fun c_43 => ?_) (fun c_43 => ?_)
            ·
              refine lv_iinc (v := zI (n27 + 1)) (lv' := [(3, .int (zI (n27 + 1))), (5, .int (zI i27)), (4, .int (zI s27)), (0, .ref o), (1, .int (zI pt)), (2, .int (zI what))]) hX0 hB0 dX12_knot_49 hl (k := 1) rfl (zI_add _ _) (by decide) rfl (fun ls hl => ?_)
              refine lv_iload hX0 hB0 dX12_knot_52 (lv_at hl 1 rfl) ?_
              refine lv_iconst (v := zI 1) hX0 hB0 dX12_knot_54 rfl ?_
              refine z_iadd (z := i27 + 1) CX dX12_knot_55 rfl ?_
              refine lv_istore (lv' := [(6, .int (zI (i27 + 1))), (3, .int (zI (n27 + 1))), (5, .int (zI i27)), (4, .int (zI s27)), (0, .ref o), (1, .int (zI pt)), (2, .int (zI what))]) hX0 hB0 dX12_knot_56 hl (by decide) rfl (fun ls hl => ?_)
              have hXt58 : ∀ (s58 : Int) (b58 : Int) (S58 : zS2), (zm_knot_W58 pt i27 ((7 : Nat)) s27 (i27 + 1) S27 = (s58, b58, S58) ∧ mI S58 ∧ (∀ kk ii : Nat, ¬ (kk = 0 ∧ ii = 33) ∧ ¬ kk = 13 ∧ ¬ kk = 14 ∧ ¬ kk = 15 ∧ ¬ kk = 16 ∧ ¬ kk = 17 ∧ ¬ kk = 18 ∧ ¬ kk = 19 ∧ ¬ (kk = 3 ∧ 3500 ≤ (ii : Int)) → S58 kk ii = S27 kk ii) ∧ 1 ≤ b58 ∧ b58 ≤ 6 ∧ (-24000 * (i27 + 1) - 2 ≤ s58 ∧ s58 ≤ 384000 * (i27 + 1))) → ∀ (H : Heap) (locs : List Loc) (ls : Array Slot), zW D (zT cI cJ cZ cP cS cM) L (zQ L sz) st (zMO cI cJ o S58 f) st.heap H locs → lv_has ls 8 [(4, .int (zI s58)), (6, .int (zI b58)), (3, .int (zI (n27 + 1))), (5, .int (zI i27)), (0, .ref o), (1, .int (zI pt)), (2, .int (zI what))] → W pg l en ({ frames := 7, cells := 0, slots := 0, locals := 180 } : Room) st mi ag bl mt cd H locs 0 0 Q (F0 mi 123 ls []) := by
                intro s58 b58 S58 hinv H locs ls hW hl
                obtain ⟨e58, hI58, hf58, hab58, hbb58, hv58⟩ := hinv
                have hp58 := hI58.s10
                have t58_10 : S58 0 10 = S27 0 10 := hf58 0 10 (by omega)
                have t58_13 : S58 0 13 = S27 0 13 := hf58 0 13 (by omega)
                refine lv_iinc (v := zI (i27 + 1)) (lv' := [(5, .int (zI (i27 + 1))), (4, .int (zI s58)), (6, .int (zI b58)), (3, .int (zI (n27 + 1))), (0, .ref o), (1, .int (zI pt)), (2, .int (zI what))]) hX0 hB0 dX12_knot_123 hl (k := 3) rfl (zI_add _ _) (by decide) rfl (fun ls hl => ?_)
                refine lv_goto (tgt := 27) hX0 hB0 dX12_knot_126 (by decide) ?_
                exact ih27 (i27 + 1) (n27 + 1) s58 S58 ⟨⟨by omega, by omega⟩, (zfor_s _ _ _ (by omega)).trans ((congrArg (zm_knot_L27 pt i27) hz27).trans (by unfold zm_knot_L27; exact zlet_e e40 (zif_t c_43 (zlet_e e58 rfl)))), hI58, fun kk ii hk => ((hf58 kk ii (by omega))).trans (hf27 kk ii (by omega)), by omega, by omega, ⟨by omega, by omega, by omega⟩⟩ (by omega) H locs ls hW (lv_sub hl [0, 3, 1, 4, 5, 6] rfl)
              have hL58 : ∀ (fu : Nat) (s58 : Int) (b58 : Int) (S58 : zS2), (zm_knot_W58 pt i27 ((7 : Nat)) s27 (i27 + 1) S27 = zm_knot_W58 pt i27 fu s58 b58 S58 ∧ mI S58 ∧ (∀ kk ii : Nat, ¬ (kk = 0 ∧ ii = 33) ∧ ¬ kk = 13 ∧ ¬ kk = 14 ∧ ¬ kk = 15 ∧ ¬ kk = 16 ∧ ¬ kk = 17 ∧ ¬ kk = 18 ∧ ¬ kk = 19 ∧ ¬ (kk = 3 ∧ 3500 ≤ (ii : Int)) → S58 kk ii = S27 kk ii) ∧ 1 ≤ b58 ∧ b58 ≤ 6 ∧ (i27 + 1 ≤ b58 ∧ -24000 * i27 - 4000 * (b58 - i27) - 2 ≤ s58 ∧ s58 ≤ 384000 * i27 + 64000 * (b58 - i27))) → (6 - b58).toNat < fu → ∀ (H : Heap) (locs : List Loc) (ls : Array Slot), zW D (zT cI cJ cZ cP cS cM) L (zQ L sz) st (zMO cI cJ o S58 f) st.heap H locs → lv_has ls 8 [(4, .int (zI s58)), (6, .int (zI b58)), (3, .int (zI (n27 + 1))), (5, .int (zI i27)), (0, .ref o), (1, .int (zI pt)), (2, .int (zI what))] → W pg l en ({ frames := 7, cells := 0, slots := 0, locals := 180 } : Room) st mi ag bl mt cd H locs 0 0 Q (F0 mi 58 ls []) := by
                intro fu
                induction fu with
                | zero => intro s58 b58 S58 _ hfu; exact absurd hfu (Nat.not_lt_zero _)
                | succ fu ih58 =>
                  intro s58 b58 S58 hinv hfu58 H locs ls hW hl
                  obtain ⟨hz58, hI58, hf58, hab58, hbb58, hv58⟩ := hinv
                  have hp58 := hI58.s10
                  have t58_10 : S58 0 10 = S27 0 10 := hf58 0 10 (by omega)
                  have t58_13 : S58 0 13 = S27 0 13 := hf58 0 13 (by omega)
                  have hb14 := hI58.s13
                  refine lv_iload hX0 hB0 dX12_knot_58 (lv_at hl 1 rfl) ?_
                  refine lv_aload_n hX0 hB0 dX12_knot_60 rfl (lv_at hl 4 rfl) ?_
                  refine z_get (Cn := RX12) (T := TX12) (N := 37) CX hW (v := .int (zI (S58 0 13))) zMO_0 rfl (fun w h => List.mem_cons_of_mem _ (List.mem_append_right _ h)) 13 (by decide) (List.mem_of_getElem? (i := 1) rfl) rfl rfl dX12_knot_61 ?_
                  have hr61 := hI58.s13
                  refine z_icmp_ge (tgt := 123) CX dX12_knot_64 (by decide) (by constructor <;> omega) (by constructor <;> omega) (fun c_64 => ?_) (fun c_64 => ?_)
                  ·
                    exact hXt58 s58 b58 S58 ⟨hz58.trans (by rw [zm_knot_W58]; exact zif_t c_64 rfl), hI58, fun kk ii hk => (hf58 kk ii (by omega)), by omega, by omega, ⟨by omega, by omega⟩⟩ H locs ls hW (lv_sub hl [0, 1, 2, 3, 4, 5, 6] rfl)
                  ·
                    have d_64 : ¬ S58 0 13 ≤ b58 := by omega
                    refine lv_iload hX0 hB0 dX12_knot_67 (lv_at hl 0 rfl) ?_
                    refine lv_bipush (v := zI (-2)) hX0 hB0 dX12_knot_69 (by decide) ?_
                    refine z_icmp_eq (tgt := 123) CX dX12_knot_71 (by decide) (by constructor <;> omega) (by constructor <;> omega) (fun c_71 => ?_) (fun c_71 => ?_)
                    ·
                      exact hXt58 s58 b58 S58 ⟨hz58.trans (by rw [zm_knot_W58]; exact zif_f d_64 (zif_t c_71 rfl)), hI58, fun kk ii hk => (hf58 kk ii (by omega)), by omega, by omega, ⟨by omega, by omega⟩⟩ H locs ls hW (lv_sub hl [0, 1, 2, 3, 4, 5, 6] rfl)
                    ·
                      refine lv_aload_n hX0 hB0 dX12_knot_74 rfl (lv_at hl 4 rfl) ?_
                      refine lv_iload hX0 hB0 dX12_knot_75 (lv_at hl 1 rfl) ?_
                      refine lv_iload_n hX0 hB0 dX12_knot_77 rfl (lv_at hl 5 rfl) ?_
                      refine z_calli hW (va_runV (C := RX12) (As := [.int (zI b58), .int (zI pt)]) (rest := []) CX.fix (zk_valueAt l o S58 b58 pt hI58 (by constructor <;> omega) (by constructor <;> omega)) (cwV 2 CX.fix.2.2.2.2 gX12_knot_X12_valueAt rfl rfl rfl (by decide +kernel) ⟨Nat.le_of_ble_eq_true rfl, Nat.le_of_ble_eq_true rfl⟩) (z_preV CX hW (r := (RX12, TX12, 37)) zMO_0 rfl) rfl rfl hl.1 rfl (lv_room (Nat.le_of_ble_eq_true rfl)) dX12_knot_78 ⟨Nat.zero_le _, Nat.zero_le _⟩) (fun z78 gn H locs hok hW => ?_)
                      obtain ⟨hz78, hg, hq78⟩ := hok
                      rw [hg] at hW
                      clear hg
                      have e78 : zm_valueAt S58 b58 pt = z78 := hz78.symm
                      clear hz78
                      refine z_if_eq (tgt := 87) CX dX12_knot_81 (by decide) (by constructor <;> omega) (fun c_81 => ?_) (fun c_81 => ?_)
                      ·
                        refine lv_aload_n hX0 hB0 dX12_knot_87 rfl (lv_at hl 4 rfl) ?_
                        refine lv_iload hX0 hB0 dX12_knot_88 (lv_at hl 3 rfl) ?_
                        refine lv_iload hX0 hB0 dX12_knot_90 (lv_at hl 1 rfl) ?_
                        refine lv_iload_n hX0 hB0 dX12_knot_92 rfl (lv_at hl 5 rfl) ?_
                        have hFc93 : ∀ kk ii : Nat, ¬ (kk = 0 ∧ ii = 33) ∧ ¬ kk = 13 ∧ ¬ kk = 14 ∧ ¬ kk = 15 ∧ ¬ kk = 16 ∧ ¬ kk = 17 ∧ ¬ kk = 18 ∧ ¬ kk = 19 ∧ ¬ (kk = 3 ∧ 3500 ≤ (ii : Int)) → S58 kk ii = S kk ii := fun kk ii hk => ((hf58 kk ii (by omega))).trans (hf27 kk ii (by omega))
                        refine z_calli hW (va_runV (C := RX12) (As := [.int (zI i27), .int (zI b58), .int (zI pt)]) (rest := []) CX.fix (zk_timesAt l o S58 i27 b58 pt hI58 (by constructor <;> omega) (by constructor <;> omega) (by constructor <;> omega) (hH.mono (hFc93 0 10 (by omega)) (hFc93 0 13 (by omega)) (fun qq hqq => hFc93 3 qq (by omega))) (by omega) (by first | (rw [t58_10, t27_10]; omega) | omega)) (cwV 3 CX.fix.2.2.2.2 gX12_knot_X12_timesAt rfl rfl rfl (by decide +kernel) ⟨Nat.le_of_ble_eq_true rfl, Nat.le_of_ble_eq_true rfl⟩) (z_preV CX hW (r := (RX12, TX12, 37)) zMO_0 rfl) rfl rfl hl.1 rfl (lv_room (Nat.le_of_ble_eq_true rfl)) dX12_knot_93 ⟨Nat.zero_le _, Nat.zero_le _⟩) (fun z93 gn H locs hok hW => ?_)
                        obtain ⟨hz93, hg, hI93, hf93, hq93⟩ := hok
                        obtain ⟨S93, hS93⟩ : ∃ q, q = (zm_timesAt S58 i27 b58 pt).2 := ⟨_, rfl⟩
                        rw [← hS93] at hg hI93 hf93
                        have t93_10 : S93 0 10 = S58 0 10 := hf93 0 10 (by omega)
                        have t93_13 : S93 0 13 = S58 0 13 := hf93 0 13 (by omega)
                        skip
                        try rw [← hS93] at hq93
                        rw [hg] at hW
                        clear hg
                        have e93 : zm_timesAt S58 i27 b58 pt = (z93, S93) := Prod.ext hz93.symm hS93.symm
                        clear hz93 hS93
                        refine lv_istore (lv' := [(7, .int (zI z93)), (4, .int (zI s58)), (6, .int (zI b58)), (3, .int (zI (n27 + 1))), (5, .int (zI i27)), (0, .ref o), (1, .int (zI pt)), (2, .int (zI what))]) hX0 hB0 dX12_knot_96 hl (by decide) rfl (fun ls hl => ?_)
                        refine lv_iload hX0 hB0 dX12_knot_98 (lv_at hl 0 rfl) ?_
                        refine lv_bipush (v := zI (-2)) hX0 hB0 dX12_knot_100 (by decide) ?_
                        refine z_icmp_ne (tgt := 110) CX dX12_knot_102 (by decide) (by constructor <;> omega) (by constructor <;> omega) (fun c_102 => ?_) (fun c_102 => ?_)
                        ·
                          refine lv_iload hX0 hB0 dX12_knot_110 (lv_at hl 1 rfl) ?_
                          refine lv_iload hX0 hB0 dX12_knot_112 (lv_at hl 0 rfl) ?_
                          refine z_iadd (z := s58 + z93) CX dX12_knot_114 rfl ?_
                          refine lv_istore (lv' := [(4, .int (zI (s58 + z93))), (7, .int (zI z93)), (6, .int (zI b58)), (3, .int (zI (n27 + 1))), (5, .int (zI i27)), (0, .ref o), (1, .int (zI pt)), (2, .int (zI what))]) hX0 hB0 dX12_knot_115 hl (by decide) rfl (fun ls hl => ?_)
                          refine lv_iinc (v := zI (b58 + 1)) (lv' := [(6, .int (zI (b58 + 1))), (4, .int (zI (s58 + z93))), (7, .int (zI z93)), (3, .int (zI (n27 + 1))), (5, .int (zI i27)), (0, .ref o), (1, .int (zI pt)), (2, .int (zI what))]) hX0 hB0 dX12_knot_117 hl (k := 2) rfl (zI_add _ _) (by decide) rfl (fun ls hl => ?_)
                          refine lv_goto (tgt := 58) hX0 hB0 dX12_knot_120 (by decide) ?_
                          exact ih58 (s58 + z93) (b58 + 1) S93 ⟨hz58.trans (by rw [zm_knot_W58]; exact zif_f d_64 (zif_f c_71 (zlet_e e78 (zif_t c_81 (zlet_e e93 (zif_f c_102 rfl)))))), hI93, fun kk ii hk => ((hf93 kk ii (by omega))).trans (hf58 kk ii (by omega)), by omega, by omega, ⟨by omega, by omega, by omega⟩⟩ (by omega) H locs ls hW (lv_sub hl [1, 0, 3, 4, 5, 6, 7] rfl)
                        ·
                          refine lv_bipush (v := zI (-2)) hX0 hB0 dX12_knot_105 (by decide) ?_
                          refine lv_goto (tgt := 115) hX0 hB0 dX12_knot_107 (by decide) ?_
                          refine lv_istore (lv' := [(4, .int (zI (-2))), (7, .int (zI z93)), (6, .int (zI b58)), (3, .int (zI (n27 + 1))), (5, .int (zI i27)), (0, .ref o), (1, .int (zI pt)), (2, .int (zI what))]) hX0 hB0 dX12_knot_115 hl (by decide) rfl (fun ls hl => ?_)
                          refine lv_iinc (v := zI (b58 + 1)) (lv' := [(6, .int (zI (b58 + 1))), (4, .int (zI (-2))), (7, .int (zI z93)), (3, .int (zI (n27 + 1))), (5, .int (zI i27)), (0, .ref o), (1, .int (zI pt)), (2, .int (zI what))]) hX0 hB0 dX12_knot_117 hl (k := 2) rfl (zI_add _ _) (by decide) rfl (fun ls hl => ?_)
                          refine lv_goto (tgt := 58) hX0 hB0 dX12_knot_120 (by decide) ?_
                          exact ih58 (-2) (b58 + 1) S93 ⟨hz58.trans (by rw [zm_knot_W58]; exact zif_f d_64 (zif_f c_71 (zlet_e e78 (zif_t c_81 (zlet_e e93 (zif_t c_102 rfl)))))), hI93, fun kk ii hk => ((hf93 kk ii (by omega))).trans (hf58 kk ii (by omega)), by omega, by omega, ⟨by omega, by omega, by omega⟩⟩ (by omega) H locs ls hW (lv_sub hl [1, 0, 3, 4, 5, 6, 7] rfl)
                      ·
                        refine lv_goto (tgt := 117) hX0 hB0 dX12_knot_84 (by decide) ?_
                        refine lv_iinc (v := zI (b58 + 1)) (lv' := [(6, .int (zI (b58 + 1))), (4, .int (zI s58)), (3, .int (zI (n27 + 1))), (5, .int (zI i27)), (0, .ref o), (1, .int (zI pt)), (2, .int (zI what))]) hX0 hB0 dX12_knot_117 hl (k := 1) rfl (zI_add _ _) (by decide) rfl (fun ls hl => ?_)
                        refine lv_goto (tgt := 58) hX0 hB0 dX12_knot_120 (by decide) ?_
                        exact ih58 s58 (b58 + 1) S58 ⟨hz58.trans (by rw [zm_knot_W58]; exact zif_f d_64 (zif_f c_71 (zlet_e e78 (zif_f c_81 rfl)))), hI58, fun kk ii hk => (hf58 kk ii (by omega)), by omega, by omega, ⟨by omega, by omega, by omega⟩⟩ (by omega) H locs ls hW (lv_sub hl [1, 0, 2, 3, 4, 5, 6] rfl)
              exact hL58 _ s27 (i27 + 1) S27 ⟨rfl, hI27, fun kk ii hk => rfl, by omega, by omega, ⟨by omega, by omega, by omega⟩⟩ (by omega) H locs ls hW (lv_sub hl [3, 0, 1, 2, 4, 5, 6] rfl)
            ·
              refine lv_goto (tgt := 123) hX0 hB0 dX12_knot_46 (by decide) ?_
              refine lv_iinc (v := zI (i27 + 1)) (lv' := [(5, .int (zI (i27 + 1))), (3, .int (zI n27)), (4, .int (zI s27)), (0, .ref o), (1, .int (zI pt)), (2, .int (zI what))]) hX0 hB0 dX12_knot_123 hl (k := 0) rfl (zI_add _ _) (by decide) rfl (fun ls hl => ?_)
              refine lv_goto (tgt := 27) hX0 hB0 dX12_knot_126 (by decide) ?_
              exact ih27 (i27 + 1) n27 s27 S27 ⟨⟨by omega, by omega⟩, (zfor_s _ _ _ (by omega)).trans ((congrArg (zm_knot_L27 pt i27) hz27).trans (by unfold zm_knot_L27; exact zlet_e e40 (zif_f c_43 rfl))), hI27, fun kk ii hk => (hf27 kk ii (by omega)), by omega, by omega, ⟨by omega, by omega, by omega⟩⟩ (by omega) H locs ls hW (lv_sub hl [0, 1, 2, 3, 4, 5] rfl)
      have hb13 := hI.s13
      exact hL27 _ 0 0 0 S ⟨⟨by omega, by omega⟩, zfor_0 _ _ _, hI, fun kk ii hk => rfl, by omega, by omega, ⟨by omega, by omega, by omega⟩⟩ (Nat.lt_succ_self _) H locs ls hW (lv_sub hl [0, 2, 1, 3, 4, 5] rfl)
    ·
      refine lv_iconst (v := zI (-1)) hX0 hB0 dX12_knot_17 rfl ?_
      have hE : zm_knot S pt what = (-1, S) := by unfold zm_knot; exact zlet_e e2 (zif_f c_5 (zlet_e e11 (zif_t c_14 rfl)))
      have hFr : ∀ kk ii : Nat, ¬ (kk = 0 ∧ ii = 33) ∧ ¬ kk = 13 ∧ ¬ kk = 14 ∧ ¬ kk = 15 ∧ ¬ kk = 16 ∧ ¬ kk = 17 ∧ ¬ kk = 18 ∧ ¬ kk = 19 ∧ ¬ (kk = 3 ∧ 3500 ≤ (ii : Int)) → S kk ii = S kk ii := fun kk ii hk => rfl
      rw [← hQ]
      exact z_iret (z := -1) CX hW (by rw [hE]; exact ⟨rfl, rfl, hI, hFr, trivial⟩) rfl dX12_knot_18
def zm_keeps_L21  : Int → zS2 → zS2 := fun i21 s21 => (fun (S21 : zS2) => zlet (za S21 20 i21.toNat (S21 20 ((i21 + 157).toNat))) (fun S48 => S48)) s21
def zm_keeps_J6 (S : zS2) : zS2 := (if S 0 35 = 20 then zlet (za S 0 35 ((S 0 35) - 1)) (fun S16 => zlet (zfor (zm_keeps_L21) 0 S16 ((157 * (S16 0 35) - 1) + 1 - 0).toNat) (fun S21 => S21)) else S)
def zm_keeps_L76 (S6j : zS2) : Int → zS2 → zS2 := fun i76 s76 => (fun (S76 : zS2) => zlet (za S76 20 ((((157 * (S6j 0 35)) + 1) + i76).toNat) (S76 5 i76.toNat)) (fun S97 => S97)) s76
def zm_keeps_L106 (S6j : zS2) : Int → zS2 → zS2 := fun i106 s106 => (fun (S106 : zS2) => zlet (za S106 20 ((((157 * (S6j 0 35)) + 7) + i106).toNat) (S106 3 i106.toNat)) (fun S129 => S129)) s106
def zm_keeps (S : zS2)  : zS2 := zlet (zm_keeps_J6 S) (fun S6j => zlet (za S6j 20 ((157 * (S6j 0 35)).toNat) (S6j 0 13)) (fun S73 => zlet (zfor (zm_keeps_L76 S6j) 0 S73 (5 + 1 - 0 : Int).toNat) (fun S76 => zlet (zfor (zm_keeps_L106 S6j) 0 S76 (149 + 1 - 0 : Int).toNat) (fun S106 => zlet (za S106 0 35 ((S106 0 35) + 1)) (fun S143 => S143)))))
set_option maxRecDepth 100000 in
set_option maxHeartbeats 4000000 in
theorem zk_keeps (l : Launch) {D : va_G} {cI cJ cZ cP cS cM : ClassId} {L : List Nat} {sz : Nat} {f : Nat → va_E} (o : Nat) (S : zS2)  (hI : mI S)  : zMv l yX12_keeps wsX12_keeps 0 0 D (zT cI cJ cZ cP cS cM) L sz (zMO cI cJ o S f) [.ref o] (fun gv => gv = zMO cI cJ o (zm_keeps S) f ∧ mI (zm_keeps S) ∧ (∀ kk ii : Nat, ¬ (kk = 0 ∧ ii = 35) ∧ ¬ kk = 20 → (zm_keeps S) kk ii = S kk ii) ∧ 1 ≤ (zm_keeps S) 0 35) := by
  refine zWalk.met (nL := 3) (ret := none) (cc := cX12_keeps) (by decide) rfl (Nat.le_of_ble_eq_true rfl) ?_
  intro pg en st mi ag bl mt cd ls CX hW hl
  have CX : zC pg st mi ag mt cd cX12_keeps 3 none RX12 wsX12_keeps := CX
  generalize hQ : MQ bl _ ag st 0 0 _ = Q
  have hX0 := CX.1
  have hB0 := CX.2.1
  have hl : lv_has ls 3 [(0, .ref o)] := hl
  obtain ⟨H, eH⟩ : ∃ H, H = st.heap := ⟨_, rfl⟩
  obtain ⟨locs, eL⟩ : ∃ L : List Loc, L = [] := ⟨_, rfl⟩
  have hW : zW D (zT cI cJ cZ cP cS cM) L (zQ L sz) st (zMO cI cJ o S f) st.heap H locs := by rw [eH, eL]; exact hW
  suffices hgo : W pg l en ({ frames := 0, cells := 0, slots := 0, locals := 0 } : Room) st mi ag bl mt cd H locs 0 0 Q (F0 mi 0 ls []) by rw [eH, eL] at hgo; exact hgo
  clear eH eL
  have hpb := hI.s10
  have hbu := hI.s35
  refine lv_aload_n hX0 hB0 dX12_keeps_0 rfl (lv_at hl 0 rfl) ?_
  refine z_get (Cn := RX12) (T := TX12) (N := 37) CX hW (v := .int (zI (S 0 35))) zMO_0 rfl (fun w h => List.mem_cons_of_mem _ (List.mem_append_right _ h)) 35 (by decide) (List.mem_of_getElem? (i := 1) rfl) rfl rfl dX12_keeps_1 ?_
  have hr1 := hI.s35
  refine lv_bipush (v := zI 20) hX0 hB0 dX12_keeps_4 (by decide) ?_
  have hJ6 : ∀ (S6j : zS2), (zm_keeps_J6 S = S6j ∧ mI S6j ∧ (∀ kk ii : Nat, ¬ (kk = 0 ∧ ii = 35) ∧ ¬ kk = 20 → S6j kk ii = S kk ii) ∧ (S6j 0 35 ≤ 19 ∧ 0 ≤ S6j 0 35 ∧ S6j 0 13 = S 0 13)) → ∀ (H : Heap) (locs : List Loc) (ls : Array Slot), zW D (zT cI cJ cZ cP cS cM) L (zQ L sz) st (zMO cI cJ o S6j f) st.heap H locs → lv_has ls 3 [(0, .ref o)] → W pg l en ({ frames := 0, cells := 0, slots := 0, locals := 0 } : Room) st mi ag bl mt cd H locs 0 0 Q (F0 mi 55 ls []) := by
    intro S6j hinv H locs ls hW hl
    obtain ⟨e6j, hI6j, hf6j, hv6j⟩ := hinv
    have hp6j := hI6j.s10
    have t6j_13 : S6j 0 13 = S 0 13 := hf6j 0 13 (by omega)
    refine lv_sipush (v := zI 157) hX0 hB0 dX12_keeps_55 (by decide) ?_
    refine lv_aload_n hX0 hB0 dX12_keeps_58 rfl (lv_at hl 0 rfl) ?_
    refine z_get (Cn := RX12) (T := TX12) (N := 37) CX hW (v := .int (zI (S6j 0 35))) zMO_0 rfl (fun w h => List.mem_cons_of_mem _ (List.mem_append_right _ h)) 35 (by decide) (List.mem_of_getElem? (i := 1) rfl) rfl rfl dX12_keeps_59 ?_
    have hr59 := hI6j.s35
    refine z_imul (z := 157 * (S6j 0 35)) CX dX12_keeps_62 rfl ?_
    refine lv_istore_n (lv' := [(1, .int (zI (157 * (S6j 0 35)))), (0, .ref o)]) hX0 hB0 dX12_keeps_63 rfl hl (by decide) rfl (fun ls hl => ?_)
    refine lv_aload_n hX0 hB0 dX12_keeps_64 rfl (lv_at hl 1 rfl) ?_
    refine z_get (Cn := RX12) (T := TX12) (N := 37) CX hW (v := .ref (o + 20)) zMO_0 rfl (fun w h => List.mem_cons_of_mem _ (List.mem_append_right _ h)) 36 (by decide) (List.mem_of_getElem? (i := 2) rfl) rfl rfl dX12_keeps_65 ?_
    refine lv_iload_n hX0 hB0 dX12_keeps_68 rfl (lv_at hl 0 rfl) ?_
    refine lv_aload_n hX0 hB0 dX12_keeps_69 rfl (lv_at hl 1 rfl) ?_
    refine z_get (Cn := RX12) (T := TX12) (N := 37) CX hW (v := .int (zI (S6j 0 13))) zMO_0 rfl (fun w h => List.mem_cons_of_mem _ (List.mem_append_right _ h)) 13 (by decide) (List.mem_of_getElem? (i := 3) rfl) rfl rfl dX12_keeps_70 ?_
    have hr70 := hI6j.s13
    obtain ⟨S73, e73⟩ : ∃ q, za S6j 20 ((157 * (S6j 0 35)).toNat) (S6j 0 13) = q := ⟨_, rfl⟩
    refine z_iast CX hW zMO_20 0 rfl (by refine ⟨?_, ?_, ?_⟩ <;> omega) (g := zMO cI cJ o S73 f) (zMO_w20.trans (by rw [← e73]; rfl)) dX12_keeps_73 (fun H locs hW => ?_)
    have hI73 : mI S73 := e73 ▸ hI6j.w20 (by exact (zbk_0 (by omega)).mpr (by omega))
    have t73_13 : S73 0 13 = S6j 0 13 := by rw [← e73]; exact za_ne (by omega)
    have t73_35 : S73 0 35 = S6j 0 35 := by rw [← e73]; exact za_ne (by omega)
    refine lv_iconst (v := zI 0) hX0 hB0 dX12_keeps_74 rfl ?_
    refine lv_istore_n (lv' := [(2, .int (zI 0)), (1, .int (zI (157 * (S6j 0 35)))), (0, .ref o)]) hX0 hB0 dX12_keeps_75 rfl hl (by decide) rfl (fun ls hl => ?_)
    have hL76 : ∀ (fu : Nat) (i76 : Int) (S76 : zS2), ((0 ≤ i76 ∧ i76 ≤ 5 + 1) ∧ zfor (zm_keeps_L76 S6j) 0 S73 (i76 - 0).toNat = S76 ∧ mI S76 ∧ (∀ kk ii : Nat, ¬ kk = 20 → S76 kk ii = S73 kk ii)) → (5 + 1 - i76).toNat < fu → ∀ (H : Heap) (locs : List Loc) (ls : Array Slot), zW D (zT cI cJ cZ cP cS cM) L (zQ L sz) st (zMO cI cJ o S76 f) st.heap H locs → lv_has ls 3 [(2, .int (zI i76)), (1, .int (zI (157 * (S6j 0 35)))), (0, .ref o)] → W pg l en ({ frames := 0, cells := 0, slots := 0, locals := 0 } : Room) st mi ag bl mt cd H locs 0 0 Q (F0 mi 76 ls []) := by
      intro fu
      induction fu with
      | zero => intro i76 S76 _ hfu; exact absurd hfu (Nat.not_lt_zero _)
      | succ fu ih76 =>
        intro i76 S76 hinv hfu76 H locs ls hW hl
        obtain ⟨⟨hlo76, hhi76⟩, hz76, hI76, hf76⟩ := hinv
        have hp76 := hI76.s10
        have t76_13 : S76 0 13 = S73 0 13 := hf76 0 13 (by omega)
        have t76_35 : S76 0 35 = S73 0 35 := hf76 0 35 (by omega)
        refine lv_iload_n hX0 hB0 dX12_keeps_76 rfl (lv_at hl 0 rfl) ?_
        refine lv_bipush (v := zI 6) hX0 hB0 dX12_keeps_77 (by decide) ?_
        refine z_icmp_ge (tgt := 104) CX dX12_keeps_79 (by decide) (by constructor <;> omega) (by constructor <;> omega) (fun c_79 => ?_) (fun c_79 => ?_)
        ·
          have e76 : zfor (zm_keeps_L76 S6j) 0 S73 (5 + 1 - 0 : Int).toNat = S76 := by rw [show (5 + 1 - 0 : Int).toNat = (i76 - 0).toNat by omega]; exact hz76
          refine lv_iconst (v := zI 0) hX0 hB0 dX12_keeps_104 rfl ?_
          refine lv_istore_n (lv' := [(2, .int (zI 0)), (1, .int (zI (157 * (S6j 0 35)))), (0, .ref o)]) hX0 hB0 dX12_keeps_105 rfl hl (by decide) rfl (fun ls hl => ?_)
          have hL106 : ∀ (fu : Nat) (i106 : Int) (S106 : zS2), ((0 ≤ i106 ∧ i106 ≤ 149 + 1) ∧ zfor (zm_keeps_L106 S6j) 0 S76 (i106 - 0).toNat = S106 ∧ mI S106 ∧ (∀ kk ii : Nat, ¬ kk = 20 → S106 kk ii = S76 kk ii)) → (149 + 1 - i106).toNat < fu → ∀ (H : Heap) (locs : List Loc) (ls : Array Slot), zW D (zT cI cJ cZ cP cS cM) L (zQ L sz) st (zMO cI cJ o S106 f) st.heap H locs → lv_has ls 3 [(2, .int (zI i106)), (1, .int (zI (157 * (S6j 0 35)))), (0, .ref o)] → W pg l en ({ frames := 0, cells := 0, slots := 0, locals := 0 } : Room) st mi ag bl mt cd H locs 0 0 Q (F0 mi 106 ls []) := by
            intro fu
            induction fu with
            | zero => intro i106 S106 _ hfu; exact absurd hfu (Nat.not_lt_zero _)
            | succ fu ih106 =>
              intro i106 S106 hinv hfu106 H locs ls hW hl
              obtain ⟨⟨hlo106, hhi106⟩, hz106, hI106, hf106⟩ := hinv
              have hp106 := hI106.s10
              have t106_13 : S106 0 13 = S76 0 13 := hf106 0 13 (by omega)
              have t106_35 : S106 0 35 = S76 0 35 := hf106 0 35 (by omega)
              refine lv_iload_n hX0 hB0 dX12_keeps_106 rfl (lv_at hl 0 rfl) ?_
              refine lv_sipush (v := zI 150) hX0 hB0 dX12_keeps_107 (by decide) ?_
              refine z_icmp_ge (tgt := 136) CX dX12_keeps_110 (by decide) (by constructor <;> omega) (by constructor <;> omega) (fun c_110 => ?_) (fun c_110 => ?_)
              ·
                have e106 : zfor (zm_keeps_L106 S6j) 0 S76 (149 + 1 - 0 : Int).toNat = S106 := by rw [show (149 + 1 - 0 : Int).toNat = (i106 - 0).toNat by omega]; exact hz106
                refine lv_aload_n hX0 hB0 dX12_keeps_136 rfl (lv_at hl 2 rfl) ?_
                refine lv_dup hX0 hB0 dX12_keeps_137 rfl ?_
                refine z_get (Cn := RX12) (T := TX12) (N := 37) CX hW (v := .int (zI (S106 0 35))) zMO_0 rfl (fun w h => List.mem_cons_of_mem _ (List.mem_append_right _ h)) 35 (by decide) (List.mem_of_getElem? (i := 1) rfl) rfl rfl dX12_keeps_138 ?_
                have hr138 := hI106.s35
                refine lv_iconst (v := zI 1) hX0 hB0 dX12_keeps_141 rfl ?_
                refine z_iadd (z := (S106 0 35) + 1) CX dX12_keeps_142 rfl ?_
                obtain ⟨S143, e143⟩ : ∃ q, za S106 0 35 ((S106 0 35) + 1) = q := ⟨_, rfl⟩
                refine z_put (Cn := RX12) (T := TX12) (N := 37) CX hW (v := .int (zI ((S106 0 35) + 1))) zMO_0 rfl (fun w h => List.mem_cons_of_mem _ (List.mem_append_right _ h)) tyX12 tyX12_ok nmX12 35 (by decide) (List.mem_of_getElem? (i := 1) rfl) rfl rfl rfl rfl (Nat.le_of_ble_eq_true rfl) (g := zMO cI cJ o S143 f) (zMO_s35.trans (by rw [e143])) dX12_keeps_143 (fun H locs hW => ?_)
                have hI143 : mI S143 := e143 ▸ hI106.v35 (by constructor <;> omega)
                have t143_13 : S143 0 13 = S106 0 13 := by rw [← e143]; exact za_ne (by omega)
                have t143_35 : S143 0 35 = (S106 0 35) + 1 := by rw [← e143]; exact za_same
                have hE : zm_keeps S = S143 := by unfold zm_keeps; exact zlet_e e6j (zlet_e e73 (zlet_e e76 (zlet_e e106 (zlet_e e143 rfl))))
                have hFr : ∀ kk ii : Nat, ¬ (kk = 0 ∧ ii = 35) ∧ ¬ kk = 20 → S143 kk ii = S kk ii := fun kk ii hk => (((((show S143 kk ii = S106 kk ii from by rw [← e143]; exact za_ne (by omega))).trans (hf106 kk ii (by omega))).trans (hf76 kk ii (by omega))).trans (show S73 kk ii = S6j kk ii from by rw [← e73]; exact za_ne (by omega))).trans (hf6j kk ii (by omega))
                rw [← hQ]
                exact z_vret CX hW (by rw [hE]; exact ⟨rfl, hI143, hFr, (show 1 ≤ S143 0 35 from by omega)⟩) dX12_keeps_146
              ·
                refine lv_aload_n hX0 hB0 dX12_keeps_113 rfl (lv_at hl 2 rfl) ?_
                refine z_get (Cn := RX12) (T := TX12) (N := 37) CX hW (v := .ref (o + 20)) zMO_0 rfl (fun w h => List.mem_cons_of_mem _ (List.mem_append_right _ h)) 36 (by decide) (List.mem_of_getElem? (i := 2) rfl) rfl rfl dX12_keeps_114 ?_
                refine lv_iload_n hX0 hB0 dX12_keeps_117 rfl (lv_at hl 1 rfl) ?_
                refine lv_bipush (v := zI 7) hX0 hB0 dX12_keeps_118 (by decide) ?_
                refine z_iadd (z := (157 * (S6j 0 35)) + 7) CX dX12_keeps_120 rfl ?_
                refine lv_iload_n hX0 hB0 dX12_keeps_121 rfl (lv_at hl 0 rfl) ?_
                refine z_iadd (z := ((157 * (S6j 0 35)) + 7) + i106) CX dX12_keeps_122 rfl ?_
                refine lv_aload_n hX0 hB0 dX12_keeps_123 rfl (lv_at hl 2 rfl) ?_
                refine z_get (Cn := RX12) (T := TX12) (N := 37) CX hW (v := .ref (o + 3)) zMO_0 rfl (fun w h => List.mem_cons_of_mem _ (List.mem_append_right _ h)) 11 (by decide) (List.mem_of_getElem? (i := 5) rfl) rfl rfl dX12_keeps_124 ?_
                refine lv_iload_n hX0 hB0 dX12_keeps_127 rfl (lv_at hl 0 rfl) ?_
                refine z_iald (z := S106 3 i106.toNat) CX hW zMO_3 0 rfl (by refine ⟨?_, ?_, ?_⟩ <;> omega) rfl dX12_keeps_128 ?_
                have hr128 := hI106.r3 i106.toNat
                obtain ⟨S129, e129⟩ : ∃ q, za S106 20 ((((157 * (S6j 0 35)) + 7) + i106).toNat) (S106 3 i106.toNat) = q := ⟨_, rfl⟩
                refine z_iast CX hW zMO_20 0 rfl (by refine ⟨?_, ?_, ?_⟩ <;> omega) (g := zMO cI cJ o S129 f) (zMO_w20.trans (by rw [← e129]; rfl)) dX12_keeps_129 (fun H locs hW => ?_)
                have hI129 : mI S129 := e129 ▸ hI106.w20 (by exact (zbk_7 (by omega)).mpr (by omega))
                have t129_13 : S129 0 13 = S106 0 13 := by rw [← e129]; exact za_ne (by omega)
                have t129_35 : S129 0 35 = S106 0 35 := by rw [← e129]; exact za_ne (by omega)
                refine lv_iinc (v := zI (i106 + 1)) (lv' := [(2, .int (zI (i106 + 1))), (1, .int (zI (157 * (S6j 0 35)))), (0, .ref o)]) hX0 hB0 dX12_keeps_130 hl (k := 0) rfl (zI_add _ _) (by decide) rfl (fun ls hl => ?_)
                refine lv_goto (tgt := 106) hX0 hB0 dX12_keeps_133 (by decide) ?_
                exact ih106 (i106 + 1) S129 ⟨⟨by omega, by omega⟩, (zfor_s _ _ _ (by omega)).trans ((congrArg (zm_keeps_L106 S6j i106) hz106).trans (by unfold zm_keeps_L106; exact zlet_e e129 rfl)), hI129, fun kk ii hk => ((show S129 kk ii = S106 kk ii from by rw [← e129]; exact za_ne (by omega))).trans (hf106 kk ii (by omega))⟩ (by omega) H locs ls hW (lv_sub hl [0, 1, 2] rfl)
          exact hL106 _ 0 S76 ⟨⟨by omega, by omega⟩, zfor_0 _ _ _, hI76, fun kk ii hk => rfl⟩ (Nat.lt_succ_self _) H locs ls hW (lv_sub hl [0, 1, 2] rfl)
        ·
          refine lv_aload_n hX0 hB0 dX12_keeps_82 rfl (lv_at hl 2 rfl) ?_
          refine z_get (Cn := RX12) (T := TX12) (N := 37) CX hW (v := .ref (o + 20)) zMO_0 rfl (fun w h => List.mem_cons_of_mem _ (List.mem_append_right _ h)) 36 (by decide) (List.mem_of_getElem? (i := 2) rfl) rfl rfl dX12_keeps_83 ?_
          refine lv_iload_n hX0 hB0 dX12_keeps_86 rfl (lv_at hl 1 rfl) ?_
          refine lv_iconst (v := zI 1) hX0 hB0 dX12_keeps_87 rfl ?_
          refine z_iadd (z := (157 * (S6j 0 35)) + 1) CX dX12_keeps_88 rfl ?_
          refine lv_iload_n hX0 hB0 dX12_keeps_89 rfl (lv_at hl 0 rfl) ?_
          refine z_iadd (z := ((157 * (S6j 0 35)) + 1) + i76) CX dX12_keeps_90 rfl ?_
          refine lv_aload_n hX0 hB0 dX12_keeps_91 rfl (lv_at hl 2 rfl) ?_
          refine z_get (Cn := RX12) (T := TX12) (N := 37) CX hW (v := .ref (o + 5)) zMO_0 rfl (fun w h => List.mem_cons_of_mem _ (List.mem_append_right _ h)) 14 (by decide) (List.mem_of_getElem? (i := 4) rfl) rfl rfl dX12_keeps_92 ?_
          refine lv_iload_n hX0 hB0 dX12_keeps_95 rfl (lv_at hl 0 rfl) ?_
          refine z_iald (z := S76 5 i76.toNat) CX hW zMO_5 0 rfl (by refine ⟨?_, ?_, ?_⟩ <;> omega) rfl dX12_keeps_96 ?_
          have hr96 := hI76.r5 i76.toNat
          obtain ⟨S97, e97⟩ : ∃ q, za S76 20 ((((157 * (S6j 0 35)) + 1) + i76).toNat) (S76 5 i76.toNat) = q := ⟨_, rfl⟩
          refine z_iast CX hW zMO_20 0 rfl (by refine ⟨?_, ?_, ?_⟩ <;> omega) (g := zMO cI cJ o S97 f) (zMO_w20.trans (by rw [← e97]; rfl)) dX12_keeps_97 (fun H locs hW => ?_)
          have hI97 : mI S97 := e97 ▸ hI76.w20 (by exact (zbk_1 (by omega)).mpr (by omega))
          have t97_13 : S97 0 13 = S76 0 13 := by rw [← e97]; exact za_ne (by omega)
          have t97_35 : S97 0 35 = S76 0 35 := by rw [← e97]; exact za_ne (by omega)
          refine lv_iinc (v := zI (i76 + 1)) (lv' := [(2, .int (zI (i76 + 1))), (1, .int (zI (157 * (S6j 0 35)))), (0, .ref o)]) hX0 hB0 dX12_keeps_98 hl (k := 0) rfl (zI_add _ _) (by decide) rfl (fun ls hl => ?_)
          refine lv_goto (tgt := 76) hX0 hB0 dX12_keeps_101 (by decide) ?_
          exact ih76 (i76 + 1) S97 ⟨⟨by omega, by omega⟩, (zfor_s _ _ _ (by omega)).trans ((congrArg (zm_keeps_L76 S6j i76) hz76).trans (by unfold zm_keeps_L76; exact zlet_e e97 rfl)), hI97, fun kk ii hk => ((show S97 kk ii = S76 kk ii from by rw [← e97]; exact za_ne (by omega))).trans (hf76 kk ii (by omega))⟩ (by omega) H locs ls hW (lv_sub hl [0, 1, 2] rfl)
    exact hL76 _ 0 S73 ⟨⟨by omega, by omega⟩, zfor_0 _ _ _, hI73, fun kk ii hk => rfl⟩ (Nat.lt_succ_self _) H locs ls hW (lv_sub hl [0, 1, 2] rfl)
  refine z_icmp_ne (tgt := 55) CX dX12_keeps_6 (by decide) (by constructor <;> omega) (by constructor <;> omega) (fun c_6 => ?_) (fun c_6 => ?_)
  ·
    exact hJ6 S ⟨(by unfold zm_keeps_J6; exact zif_f c_6 rfl), hI, fun kk ii hk => rfl, ⟨by omega, by omega, by omega⟩⟩ H locs ls hW (lv_sub hl [0] rfl)
  ·
    refine lv_aload_n hX0 hB0 dX12_keeps_9 rfl (lv_at hl 0 rfl) ?_
    refine lv_dup hX0 hB0 dX12_keeps_10 rfl ?_
    refine z_get (Cn := RX12) (T := TX12) (N := 37) CX hW (v := .int (zI (S 0 35))) zMO_0 rfl (fun w h => List.mem_cons_of_mem _ (List.mem_append_right _ h)) 35 (by decide) (List.mem_of_getElem? (i := 1) rfl) rfl rfl dX12_keeps_11 ?_
    have hr11 := hI.s35
    refine lv_iconst (v := zI 1) hX0 hB0 dX12_keeps_14 rfl ?_
    refine z_isub (z := (S 0 35) - 1) CX dX12_keeps_15 rfl ?_
    obtain ⟨S16, e16⟩ : ∃ q, za S 0 35 ((S 0 35) - 1) = q := ⟨_, rfl⟩
    refine z_put (Cn := RX12) (T := TX12) (N := 37) CX hW (v := .int (zI ((S 0 35) - 1))) zMO_0 rfl (fun w h => List.mem_cons_of_mem _ (List.mem_append_right _ h)) tyX12 tyX12_ok nmX12 35 (by decide) (List.mem_of_getElem? (i := 1) rfl) rfl rfl rfl rfl (Nat.le_of_ble_eq_true rfl) (g := zMO cI cJ o S16 f) (zMO_s35.trans (by rw [e16])) dX12_keeps_16 (fun H locs hW => ?_)
    have hI16 : mI S16 := e16 ▸ hI.v35 (by constructor <;> omega)
    have t16_13 : S16 0 13 = S 0 13 := by rw [← e16]; exact za_ne (by omega)
    have t16_35 : S16 0 35 = (S 0 35) - 1 := by rw [← e16]; exact za_same
    refine lv_iconst (v := zI 0) hX0 hB0 dX12_keeps_19 rfl ?_
    refine lv_istore_n (lv' := [(1, .int (zI 0)), (0, .ref o)]) hX0 hB0 dX12_keeps_20 rfl hl (by decide) rfl (fun ls hl => ?_)
    have hL21 : ∀ (fu : Nat) (i21 : Int) (S21 : zS2), ((0 ≤ i21 ∧ i21 ≤ 157 * (S16 0 35) - 1 + 1) ∧ zfor (zm_keeps_L21) 0 S16 (i21 - 0).toNat = S21 ∧ mI S21 ∧ (∀ kk ii : Nat, ¬ kk = 20 → S21 kk ii = S16 kk ii)) → ((157 * (S16 0 35) - 1) + 1 - i21).toNat < fu → ∀ (H : Heap) (locs : List Loc) (ls : Array Slot), zW D (zT cI cJ cZ cP cS cM) L (zQ L sz) st (zMO cI cJ o S21 f) st.heap H locs → lv_has ls 3 [(1, .int (zI i21)), (0, .ref o)] → W pg l en ({ frames := 0, cells := 0, slots := 0, locals := 0 } : Room) st mi ag bl mt cd H locs 0 0 Q (F0 mi 21 ls []) := by
      intro fu
      induction fu with
      | zero => intro i21 S21 _ hfu; exact absurd hfu (Nat.not_lt_zero _)
      | succ fu ih21 =>
        intro i21 S21 hinv hfu21 H locs ls hW hl
        obtain ⟨⟨hlo21, hhi21⟩, hz21, hI21, hf21⟩ := hinv
        have hp21 := hI21.s10
        have t21_13 : S21 0 13 = S16 0 13 := hf21 0 13 (by omega)
        have t21_35 : S21 0 35 = S16 0 35 := hf21 0 35 (by omega)
        refine lv_iload_n hX0 hB0 dX12_keeps_21 rfl (lv_at hl 0 rfl) ?_
        refine lv_sipush (v := zI 157) hX0 hB0 dX12_keeps_22 (by decide) ?_
        refine lv_aload_n hX0 hB0 dX12_keeps_25 rfl (lv_at hl 1 rfl) ?_
        refine z_get (Cn := RX12) (T := TX12) (N := 37) CX hW (v := .int (zI (S21 0 35))) zMO_0 rfl (fun w h => List.mem_cons_of_mem _ (List.mem_append_right _ h)) 35 (by decide) (List.mem_of_getElem? (i := 1) rfl) rfl rfl dX12_keeps_26 ?_
        have hr26 := hI21.s35
        refine z_imul (z := 157 * (S21 0 35)) CX dX12_keeps_29 rfl ?_
        refine z_icmp_ge (tgt := 55) CX dX12_keeps_30 (by decide) (by constructor <;> omega) (by constructor <;> omega) (fun c_30 => ?_) (fun c_30 => ?_)
        ·
          have e21 : zfor (zm_keeps_L21) 0 S16 ((157 * (S16 0 35) - 1) + 1 - 0).toNat = S21 := by rw [show ((157 * (S16 0 35) - 1) + 1 - 0).toNat = (i21 - 0).toNat by omega]; exact hz21
          exact hJ6 S21 ⟨(by unfold zm_keeps_J6; exact zif_t c_6 (zlet_e e16 (zlet_e e21 rfl))), hI21, fun kk ii hk => ((hf21 kk ii (by omega))).trans (show S16 kk ii = S kk ii from by rw [← e16]; exact za_ne (by omega)), ⟨by omega, by omega, by omega⟩⟩ H locs ls hW (lv_sub hl [1] rfl)
        ·
          refine lv_aload_n hX0 hB0 dX12_keeps_33 rfl (lv_at hl 1 rfl) ?_
          refine z_get (Cn := RX12) (T := TX12) (N := 37) CX hW (v := .ref (o + 20)) zMO_0 rfl (fun w h => List.mem_cons_of_mem _ (List.mem_append_right _ h)) 36 (by decide) (List.mem_of_getElem? (i := 2) rfl) rfl rfl dX12_keeps_34 ?_
          refine lv_iload_n hX0 hB0 dX12_keeps_37 rfl (lv_at hl 0 rfl) ?_
          refine lv_aload_n hX0 hB0 dX12_keeps_38 rfl (lv_at hl 1 rfl) ?_
          refine z_get (Cn := RX12) (T := TX12) (N := 37) CX hW (v := .ref (o + 20)) zMO_0 rfl (fun w h => List.mem_cons_of_mem _ (List.mem_append_right _ h)) 36 (by decide) (List.mem_of_getElem? (i := 2) rfl) rfl rfl dX12_keeps_39 ?_
          refine lv_iload_n hX0 hB0 dX12_keeps_42 rfl (lv_at hl 0 rfl) ?_
          refine lv_sipush (v := zI 157) hX0 hB0 dX12_keeps_43 (by decide) ?_
          refine z_iadd (z := i21 + 157) CX dX12_keeps_46 rfl ?_
          refine z_iald (z := S21 20 ((i21 + 157).toNat)) CX hW zMO_20 0 rfl (by refine ⟨?_, ?_, ?_⟩ <;> omega) rfl dX12_keeps_47 ?_
          have hr47 := hI21.r20 ((i21 + 157).toNat)
          obtain ⟨S48, e48⟩ : ∃ q, za S21 20 i21.toNat (S21 20 ((i21 + 157).toNat)) = q := ⟨_, rfl⟩
          refine z_iast CX hW zMO_20 0 rfl (by refine ⟨?_, ?_, ?_⟩ <;> omega) (g := zMO cI cJ o S48 f) (zMO_w20.trans (by rw [← e48]; rfl)) dX12_keeps_48 (fun H locs hW => ?_)
          have hI48 : mI S48 := e48 ▸ hI21.w20 (by exact zbk_s (by omega) hr47)
          have t48_13 : S48 0 13 = S21 0 13 := by rw [← e48]; exact za_ne (by omega)
          have t48_35 : S48 0 35 = S21 0 35 := by rw [← e48]; exact za_ne (by omega)
          refine lv_iinc (v := zI (i21 + 1)) (lv' := [(1, .int (zI (i21 + 1))), (0, .ref o)]) hX0 hB0 dX12_keeps_49 hl (k := 0) rfl (zI_add _ _) (by decide) rfl (fun ls hl => ?_)
          refine lv_goto (tgt := 21) hX0 hB0 dX12_keeps_52 (by decide) ?_
          exact ih21 (i21 + 1) S48 ⟨⟨by omega, by omega⟩, (zfor_s _ _ _ (by omega)).trans ((congrArg (zm_keeps_L21 i21) hz21).trans (by unfold zm_keeps_L21; exact zlet_e e48 rfl)), hI48, fun kk ii hk => ((show S48 kk ii = S21 kk ii from by rw [← e48]; exact za_ne (by omega))).trans (hf21 kk ii (by omega))⟩ (by omega) H locs ls hW (lv_sub hl [0, 1] rfl)
    exact hL21 _ 0 S16 ⟨⟨by omega, by omega⟩, zfor_0 _ _ _, hI16, fun kk ii hk => rfl⟩ (Nat.lt_succ_self _) H locs ls hW (lv_sub hl [0, 1] rfl)
def zm_undo_L44 (S20 : zS2) : Int → zS2 → zS2 := fun i44 s44 => (fun (S44 : zS2) => zlet (za S44 5 i44.toNat (S44 20 ((((157 * (S20 0 35)) + 1) + i44).toNat))) (fun S65 => S65)) s44
def zm_undo_L74 (S20 : zS2) : Int → zS2 → zS2 := fun i74 s74 => (fun (S74 : zS2) => zlet (za S74 3 i74.toNat (S74 20 ((((157 * (S20 0 35)) + 7) + i74).toNat))) (fun S97 => S97)) s74
def zm_undo (S : zS2)  : Int × zS2 := (if S 0 35 = 0 then zlet (zm_isRefused S 4) (fun q9 => (fun (z9 : Int) (S9 : zS2) => (z9, S9)) q9.1 q9.2) else zlet (za S 0 35 ((S 0 35) - 1)) (fun S20 => zlet (za S20 0 13 (S20 20 ((157 * (S20 0 35)).toNat))) (fun S39 => zlet (zfor (zm_undo_L44 S20) 0 S39 (5 + 1 - 0 : Int).toNat) (fun S44 => zlet (zfor (zm_undo_L74 S20) 0 S44 (149 + 1 - 0 : Int).toNat) (fun S74 => (1, S74))))))
set_option maxRecDepth 100000 in
set_option maxHeartbeats 4000000 in
theorem zk_undo (l : Launch) {D : va_G} {cI cJ cZ cP cS cM : ClassId} {L : List Nat} {sz : Nat} {f : Nat → va_E} (o : Nat) (S : zS2)  (hI : mI S)  : zMi l yX12_undo wsX12_undo 1 21 D (zT cI cJ cZ cP cS cM) L sz (zMO cI cJ o S f) [.ref o] (fun zv gv => zv = (zm_undo S).1 ∧ gv = zMO cI cJ o (zm_undo S).2 f ∧ mI (zm_undo S).2 ∧ (∀ kk ii : Nat, ¬ (kk = 0 ∧ ii = 13) ∧ ¬ (kk = 0 ∧ ii = 35) ∧ ¬ kk = 2 ∧ ¬ kk = 3 ∧ ¬ kk = 5 → (zm_undo S).2 kk ii = S kk ii) ∧ 0 ≤ zv ∧ zv ≤ 1) := by
  refine zWalk.met (nL := 3) (ret := (some .boolean)) (cc := cX12_undo) (by decide) rfl (Nat.le_of_ble_eq_true rfl) ?_
  intro pg en st mi ag bl mt cd ls CX hW hl
  have CX : zC pg st mi ag mt cd cX12_undo 3 (some .boolean) RX12 wsX12_undo := CX
  generalize hQ : MQ bl _ ag st 0 0 _ = Q
  have hX0 := CX.1
  have hB0 := CX.2.1
  have hl : lv_has ls 3 [(0, .ref o)] := hl
  obtain ⟨H, eH⟩ : ∃ H, H = st.heap := ⟨_, rfl⟩
  obtain ⟨locs, eL⟩ : ∃ L : List Loc, L = [] := ⟨_, rfl⟩
  have hW : zW D (zT cI cJ cZ cP cS cM) L (zQ L sz) st (zMO cI cJ o S f) st.heap H locs := by rw [eH, eL]; exact hW
  suffices hgo : W pg l en ({ frames := 1, cells := 0, slots := 0, locals := 21 } : Room) st mi ag bl mt cd H locs 0 0 Q (F0 mi 0 ls []) by rw [eH, eL] at hgo; exact hgo
  clear eH eL
  have hpb := hI.s10
  have hbu := hI.s35
  refine lv_aload_n hX0 hB0 dX12_undo_0 rfl (lv_at hl 0 rfl) ?_
  refine z_get (Cn := RX12) (T := TX12) (N := 37) CX hW (v := .int (zI (S 0 35))) zMO_0 rfl (fun w h => List.mem_cons_of_mem _ (List.mem_append_right _ h)) 35 (by decide) (List.mem_of_getElem? (i := 1) rfl) rfl rfl dX12_undo_1 ?_
  have hr1 := hI.s35
  refine z_if_ne (tgt := 13) CX dX12_undo_4 (by decide) (by constructor <;> omega) (fun c_4 => ?_) (fun c_4 => ?_)
  ·
    refine lv_aload_n hX0 hB0 dX12_undo_13 rfl (lv_at hl 0 rfl) ?_
    refine lv_dup hX0 hB0 dX12_undo_14 rfl ?_
    refine z_get (Cn := RX12) (T := TX12) (N := 37) CX hW (v := .int (zI (S 0 35))) zMO_0 rfl (fun w h => List.mem_cons_of_mem _ (List.mem_append_right _ h)) 35 (by decide) (List.mem_of_getElem? (i := 1) rfl) rfl rfl dX12_undo_15 ?_
    have hr15 := hI.s35
    refine lv_iconst (v := zI 1) hX0 hB0 dX12_undo_18 rfl ?_
    refine z_isub (z := (S 0 35) - 1) CX dX12_undo_19 rfl ?_
    obtain ⟨S20, e20⟩ : ∃ q, za S 0 35 ((S 0 35) - 1) = q := ⟨_, rfl⟩
    refine z_put (Cn := RX12) (T := TX12) (N := 37) CX hW (v := .int (zI ((S 0 35) - 1))) zMO_0 rfl (fun w h => List.mem_cons_of_mem _ (List.mem_append_right _ h)) tyX12 tyX12_ok nmX12 35 (by decide) (List.mem_of_getElem? (i := 1) rfl) rfl rfl rfl rfl (Nat.le_of_ble_eq_true rfl) (g := zMO cI cJ o S20 f) (zMO_s35.trans (by rw [e20])) dX12_undo_20 (fun H locs hW => ?_)
    have hI20 : mI S20 := e20 ▸ hI.v35 (by constructor <;> omega)
    have t20_35 : S20 0 35 = (S 0 35) - 1 := by rw [← e20]; exact za_same
    refine lv_sipush (v := zI 157) hX0 hB0 dX12_undo_23 (by decide) ?_
    refine lv_aload_n hX0 hB0 dX12_undo_26 rfl (lv_at hl 0 rfl) ?_
    refine z_get (Cn := RX12) (T := TX12) (N := 37) CX hW (v := .int (zI (S20 0 35))) zMO_0 rfl (fun w h => List.mem_cons_of_mem _ (List.mem_append_right _ h)) 35 (by decide) (List.mem_of_getElem? (i := 1) rfl) rfl rfl dX12_undo_27 ?_
    have hr27 := hI20.s35
    refine z_imul (z := 157 * (S20 0 35)) CX dX12_undo_30 rfl ?_
    refine lv_istore_n (lv' := [(1, .int (zI (157 * (S20 0 35)))), (0, .ref o)]) hX0 hB0 dX12_undo_31 rfl hl (by decide) rfl (fun ls hl => ?_)
    refine lv_aload_n hX0 hB0 dX12_undo_32 rfl (lv_at hl 1 rfl) ?_
    refine lv_aload_n hX0 hB0 dX12_undo_33 rfl (lv_at hl 1 rfl) ?_
    refine z_get (Cn := RX12) (T := TX12) (N := 37) CX hW (v := .ref (o + 20)) zMO_0 rfl (fun w h => List.mem_cons_of_mem _ (List.mem_append_right _ h)) 36 (by decide) (List.mem_of_getElem? (i := 2) rfl) rfl rfl dX12_undo_34 ?_
    refine lv_iload_n hX0 hB0 dX12_undo_37 rfl (lv_at hl 0 rfl) ?_
    refine z_iald (z := S20 20 ((157 * (S20 0 35)).toNat)) CX hW zMO_20 0 rfl (by refine ⟨?_, ?_, ?_⟩ <;> omega) rfl dX12_undo_38 ?_
    have hr38 := hI20.r20 ((157 * (S20 0 35)).toNat)
    have hk38 := (zbk_0 (by omega)).mp hr38
    obtain ⟨S39, e39⟩ : ∃ q, za S20 0 13 (S20 20 ((157 * (S20 0 35)).toNat)) = q := ⟨_, rfl⟩
    refine z_put (Cn := RX12) (T := TX12) (N := 37) CX hW (v := .int (zI (S20 20 ((157 * (S20 0 35)).toNat)))) zMO_0 rfl (fun w h => List.mem_cons_of_mem _ (List.mem_append_right _ h)) tyX12 tyX12_ok nmX12 13 (by decide) (List.mem_of_getElem? (i := 3) rfl) rfl rfl rfl rfl (Nat.le_of_ble_eq_true rfl) (g := zMO cI cJ o S39 f) (zMO_s13.trans (by rw [e39])) dX12_undo_39 (fun H locs hW => ?_)
    have hI39 : mI S39 := e39 ▸ hI20.v13 (by constructor <;> omega)
    have t39_35 : S39 0 35 = S20 0 35 := by rw [← e39]; exact za_ne (by omega)
    refine lv_iconst (v := zI 0) hX0 hB0 dX12_undo_42 rfl ?_
    refine lv_istore_n (lv' := [(2, .int (zI 0)), (1, .int (zI (157 * (S20 0 35)))), (0, .ref o)]) hX0 hB0 dX12_undo_43 rfl hl (by decide) rfl (fun ls hl => ?_)
    have hL44 : ∀ (fu : Nat) (i44 : Int) (S44 : zS2), ((0 ≤ i44 ∧ i44 ≤ 5 + 1) ∧ zfor (zm_undo_L44 S20) 0 S39 (i44 - 0).toNat = S44 ∧ mI S44 ∧ (∀ kk ii : Nat, ¬ kk = 5 → S44 kk ii = S39 kk ii)) → (5 + 1 - i44).toNat < fu → ∀ (H : Heap) (locs : List Loc) (ls : Array Slot), zW D (zT cI cJ cZ cP cS cM) L (zQ L sz) st (zMO cI cJ o S44 f) st.heap H locs → lv_has ls 3 [(2, .int (zI i44)), (1, .int (zI (157 * (S20 0 35)))), (0, .ref o)] → W pg l en ({ frames := 1, cells := 0, slots := 0, locals := 21 } : Room) st mi ag bl mt cd H locs 0 0 Q (F0 mi 44 ls []) := by
      intro fu
      induction fu with
      | zero => intro i44 S44 _ hfu; exact absurd hfu (Nat.not_lt_zero _)
      | succ fu ih44 =>
        intro i44 S44 hinv hfu44 H locs ls hW hl
        obtain ⟨⟨hlo44, hhi44⟩, hz44, hI44, hf44⟩ := hinv
        have hp44 := hI44.s10
        have t44_35 : S44 0 35 = S39 0 35 := hf44 0 35 (by omega)
        refine lv_iload_n hX0 hB0 dX12_undo_44 rfl (lv_at hl 0 rfl) ?_
        refine lv_bipush (v := zI 6) hX0 hB0 dX12_undo_45 (by decide) ?_
        refine z_icmp_ge (tgt := 72) CX dX12_undo_47 (by decide) (by constructor <;> omega) (by constructor <;> omega) (fun c_47 => ?_) (fun c_47 => ?_)
        ·
          have e44 : zfor (zm_undo_L44 S20) 0 S39 (5 + 1 - 0 : Int).toNat = S44 := by rw [show (5 + 1 - 0 : Int).toNat = (i44 - 0).toNat by omega]; exact hz44
          refine lv_iconst (v := zI 0) hX0 hB0 dX12_undo_72 rfl ?_
          refine lv_istore_n (lv' := [(2, .int (zI 0)), (1, .int (zI (157 * (S20 0 35)))), (0, .ref o)]) hX0 hB0 dX12_undo_73 rfl hl (by decide) rfl (fun ls hl => ?_)
          have hL74 : ∀ (fu : Nat) (i74 : Int) (S74 : zS2), ((0 ≤ i74 ∧ i74 ≤ 149 + 1) ∧ zfor (zm_undo_L74 S20) 0 S44 (i74 - 0).toNat = S74 ∧ mI S74 ∧ (∀ kk ii : Nat, ¬ kk = 3 → S74 kk ii = S44 kk ii)) → (149 + 1 - i74).toNat < fu → ∀ (H : Heap) (locs : List Loc) (ls : Array Slot), zW D (zT cI cJ cZ cP cS cM) L (zQ L sz) st (zMO cI cJ o S74 f) st.heap H locs → lv_has ls 3 [(2, .int (zI i74)), (1, .int (zI (157 * (S20 0 35)))), (0, .ref o)] → W pg l en ({ frames := 1, cells := 0, slots := 0, locals := 21 } : Room) st mi ag bl mt cd H locs 0 0 Q (F0 mi 74 ls []) := by
            intro fu
            induction fu with
            | zero => intro i74 S74 _ hfu; exact absurd hfu (Nat.not_lt_zero _)
            | succ fu ih74 =>
              intro i74 S74 hinv hfu74 H locs ls hW hl
              obtain ⟨⟨hlo74, hhi74⟩, hz74, hI74, hf74⟩ := hinv
              have hp74 := hI74.s10
              have t74_35 : S74 0 35 = S44 0 35 := hf74 0 35 (by omega)
              refine lv_iload_n hX0 hB0 dX12_undo_74 rfl (lv_at hl 0 rfl) ?_
              refine lv_sipush (v := zI 150) hX0 hB0 dX12_undo_75 (by decide) ?_
              refine z_icmp_ge (tgt := 104) CX dX12_undo_78 (by decide) (by constructor <;> omega) (by constructor <;> omega) (fun c_78 => ?_) (fun c_78 => ?_)
              ·
                have e74 : zfor (zm_undo_L74 S20) 0 S44 (149 + 1 - 0 : Int).toNat = S74 := by rw [show (149 + 1 - 0 : Int).toNat = (i74 - 0).toNat by omega]; exact hz74
                refine lv_iconst (v := zI 1) hX0 hB0 dX12_undo_104 rfl ?_
                have hE : zm_undo S = (1, S74) := by unfold zm_undo; exact zif_f c_4 (zlet_e e20 (zlet_e e39 (zlet_e e44 (zlet_e e74 rfl))))
                have hFr : ∀ kk ii : Nat, ¬ (kk = 0 ∧ ii = 13) ∧ ¬ (kk = 0 ∧ ii = 35) ∧ ¬ kk = 2 ∧ ¬ kk = 3 ∧ ¬ kk = 5 → S74 kk ii = S kk ii := fun kk ii hk => ((((hf74 kk ii (by omega))).trans (hf44 kk ii (by omega))).trans (show S39 kk ii = S20 kk ii from by rw [← e39]; exact za_ne (by omega))).trans (show S20 kk ii = S kk ii from by rw [← e20]; exact za_ne (by omega))
                rw [← hQ]
                exact z_iret (z := 1) CX hW (by rw [hE]; exact ⟨rfl, rfl, hI74, hFr, (show 0 ≤ (1 : Int) ∧ (1 : Int) ≤ 1 from by omega)⟩) rfl dX12_undo_105
              ·
                refine lv_aload_n hX0 hB0 dX12_undo_81 rfl (lv_at hl 2 rfl) ?_
                refine z_get (Cn := RX12) (T := TX12) (N := 37) CX hW (v := .ref (o + 3)) zMO_0 rfl (fun w h => List.mem_cons_of_mem _ (List.mem_append_right _ h)) 11 (by decide) (List.mem_of_getElem? (i := 5) rfl) rfl rfl dX12_undo_82 ?_
                refine lv_iload_n hX0 hB0 dX12_undo_85 rfl (lv_at hl 0 rfl) ?_
                refine lv_aload_n hX0 hB0 dX12_undo_86 rfl (lv_at hl 2 rfl) ?_
                refine z_get (Cn := RX12) (T := TX12) (N := 37) CX hW (v := .ref (o + 20)) zMO_0 rfl (fun w h => List.mem_cons_of_mem _ (List.mem_append_right _ h)) 36 (by decide) (List.mem_of_getElem? (i := 2) rfl) rfl rfl dX12_undo_87 ?_
                refine lv_iload_n hX0 hB0 dX12_undo_90 rfl (lv_at hl 1 rfl) ?_
                refine lv_bipush (v := zI 7) hX0 hB0 dX12_undo_91 (by decide) ?_
                refine z_iadd (z := (157 * (S20 0 35)) + 7) CX dX12_undo_93 rfl ?_
                refine lv_iload_n hX0 hB0 dX12_undo_94 rfl (lv_at hl 0 rfl) ?_
                refine z_iadd (z := ((157 * (S20 0 35)) + 7) + i74) CX dX12_undo_95 rfl ?_
                refine z_iald (z := S74 20 ((((157 * (S20 0 35)) + 7) + i74).toNat)) CX hW zMO_20 0 rfl (by refine ⟨?_, ?_, ?_⟩ <;> omega) rfl dX12_undo_96 ?_
                have hr96 := hI74.r20 ((((157 * (S20 0 35)) + 7) + i74).toNat)
                have hk96 := (zbk_7 (by omega)).mp hr96
                obtain ⟨S97, e97⟩ : ∃ q, za S74 3 i74.toNat (S74 20 ((((157 * (S20 0 35)) + 7) + i74).toNat)) = q := ⟨_, rfl⟩
                refine z_iast CX hW zMO_3 0 rfl (by refine ⟨?_, ?_, ?_⟩ <;> omega) (g := zMO cI cJ o S97 f) (zMO_w3.trans (by rw [← e97]; rfl)) dX12_undo_97 (fun H locs hW => ?_)
                have hI97 : mI S97 := e97 ▸ hI74.w3 (by constructor <;> omega)
                have t97_35 : S97 0 35 = S74 0 35 := by rw [← e97]; exact za_ne (by omega)
                refine lv_iinc (v := zI (i74 + 1)) (lv' := [(2, .int (zI (i74 + 1))), (1, .int (zI (157 * (S20 0 35)))), (0, .ref o)]) hX0 hB0 dX12_undo_98 hl (k := 0) rfl (zI_add _ _) (by decide) rfl (fun ls hl => ?_)
                refine lv_goto (tgt := 74) hX0 hB0 dX12_undo_101 (by decide) ?_
                exact ih74 (i74 + 1) S97 ⟨⟨by omega, by omega⟩, (zfor_s _ _ _ (by omega)).trans ((congrArg (zm_undo_L74 S20 i74) hz74).trans (by unfold zm_undo_L74; exact zlet_e e97 rfl)), hI97, fun kk ii hk => ((show S97 kk ii = S74 kk ii from by rw [← e97]; exact za_ne (by omega))).trans (hf74 kk ii (by omega))⟩ (by omega) H locs ls hW (lv_sub hl [0, 1, 2] rfl)
          exact hL74 _ 0 S44 ⟨⟨by omega, by omega⟩, zfor_0 _ _ _, hI44, fun kk ii hk => rfl⟩ (Nat.lt_succ_self _) H locs ls hW (lv_sub hl [0, 1, 2] rfl)
        ·
          refine lv_aload_n hX0 hB0 dX12_undo_50 rfl (lv_at hl 2 rfl) ?_
          refine z_get (Cn := RX12) (T := TX12) (N := 37) CX hW (v := .ref (o + 5)) zMO_0 rfl (fun w h => List.mem_cons_of_mem _ (List.mem_append_right _ h)) 14 (by decide) (List.mem_of_getElem? (i := 4) rfl) rfl rfl dX12_undo_51 ?_
          refine lv_iload_n hX0 hB0 dX12_undo_54 rfl (lv_at hl 0 rfl) ?_
          refine lv_aload_n hX0 hB0 dX12_undo_55 rfl (lv_at hl 2 rfl) ?_
          refine z_get (Cn := RX12) (T := TX12) (N := 37) CX hW (v := .ref (o + 20)) zMO_0 rfl (fun w h => List.mem_cons_of_mem _ (List.mem_append_right _ h)) 36 (by decide) (List.mem_of_getElem? (i := 2) rfl) rfl rfl dX12_undo_56 ?_
          refine lv_iload_n hX0 hB0 dX12_undo_59 rfl (lv_at hl 1 rfl) ?_
          refine lv_iconst (v := zI 1) hX0 hB0 dX12_undo_60 rfl ?_
          refine z_iadd (z := (157 * (S20 0 35)) + 1) CX dX12_undo_61 rfl ?_
          refine lv_iload_n hX0 hB0 dX12_undo_62 rfl (lv_at hl 0 rfl) ?_
          refine z_iadd (z := ((157 * (S20 0 35)) + 1) + i44) CX dX12_undo_63 rfl ?_
          refine z_iald (z := S44 20 ((((157 * (S20 0 35)) + 1) + i44).toNat)) CX hW zMO_20 0 rfl (by refine ⟨?_, ?_, ?_⟩ <;> omega) rfl dX12_undo_64 ?_
          have hr64 := hI44.r20 ((((157 * (S20 0 35)) + 1) + i44).toNat)
          have hk64 := (zbk_1 (by omega)).mp hr64
          obtain ⟨S65, e65⟩ : ∃ q, za S44 5 i44.toNat (S44 20 ((((157 * (S20 0 35)) + 1) + i44).toNat)) = q := ⟨_, rfl⟩
          refine z_iast CX hW zMO_5 0 rfl (by refine ⟨?_, ?_, ?_⟩ <;> omega) (g := zMO cI cJ o S65 f) (zMO_w5.trans (by rw [← e65]; rfl)) dX12_undo_65 (fun H locs hW => ?_)
          have hI65 : mI S65 := e65 ▸ hI44.w5 (by constructor <;> omega)
          have t65_35 : S65 0 35 = S44 0 35 := by rw [← e65]; exact za_ne (by omega)
          refine lv_iinc (v := zI (i44 + 1)) (lv' := [(2, .int (zI (i44 + 1))), (1, .int (zI (157 * (S20 0 35)))), (0, .ref o)]) hX0 hB0 dX12_undo_66 hl (k := 0) rfl (zI_add _ _) (by decide) rfl (fun ls hl => ?_)
          refine lv_goto (tgt := 44) hX0 hB0 dX12_undo_69 (by decide) ?_
          exact ih44 (i44 + 1) S65 ⟨⟨by omega, by omega⟩, (zfor_s _ _ _ (by omega)).trans ((congrArg (zm_undo_L44 S20 i44) hz44).trans (by unfold zm_undo_L44; exact zlet_e e65 rfl)), hI65, fun kk ii hk => ((show S65 kk ii = S44 kk ii from by rw [← e65]; exact za_ne (by omega))).trans (hf44 kk ii (by omega))⟩ (by omega) H locs ls hW (lv_sub hl [0, 1, 2] rfl)
    exact hL44 _ 0 S39 ⟨⟨by omega, by omega⟩, zfor_0 _ _ _, hI39, fun kk ii hk => rfl⟩ (Nat.lt_succ_self _) H locs ls hW (lv_sub hl [0, 1, 2] rfl)
  ·
    refine lv_aload_n hX0 hB0 dX12_undo_7 rfl (lv_at hl 0 rfl) ?_
    refine lv_iconst (v := zI 4) hX0 hB0 dX12_undo_8 rfl ?_
    refine z_calli hW (va_runV (C := RX12) (As := [.int (zI 4)]) (rest := []) CX.fix (zk_isRefused l o S 4 hI (by constructor <;> omega)) (cwV 1 CX.fix.2.2.2.2 gX12_undo_X12_isRefused rfl rfl rfl (by decide +kernel) ⟨Nat.le_of_ble_eq_true rfl, Nat.le_of_ble_eq_true rfl⟩) (z_preV CX hW (r := (RX12, TX12, 37)) zMO_0 rfl) rfl rfl hl.1 rfl (lv_room (Nat.le_of_ble_eq_true rfl)) dX12_undo_9 ⟨Nat.zero_le _, Nat.zero_le _⟩) (fun z9 gn H locs hok hW => ?_)
    obtain ⟨hz9, hg, hI9, hf9, hq9⟩ := hok
    obtain ⟨S9, hS9⟩ : ∃ q, q = (zm_isRefused S 4).2 := ⟨_, rfl⟩
    rw [← hS9] at hg hI9 hf9
    have t9_35 : S9 0 35 = S 0 35 := hf9 0 35 (by omega)
    skip
    try rw [← hS9] at hq9
    rw [hg] at hW
    clear hg
    have e9 : zm_isRefused S 4 = (z9, S9) := Prod.ext hz9.symm hS9.symm
    clear hz9 hS9
    have hE : zm_undo S = (z9, S9) := by unfold zm_undo; exact zif_t c_4 (zlet_e e9 rfl)
    have hFr : ∀ kk ii : Nat, ¬ (kk = 0 ∧ ii = 13) ∧ ¬ (kk = 0 ∧ ii = 35) ∧ ¬ kk = 2 ∧ ¬ kk = 3 ∧ ¬ kk = 5 → S9 kk ii = S kk ii := fun kk ii hk => (hf9 kk ii (by omega))
    rw [← hQ]
    exact z_iret (z := z9) CX hW (by rw [hE]; exact ⟨rfl, rfl, hI9, hFr, (show 0 ≤ z9 ∧ z9 ≤ 1 from by omega)⟩) (zI_bool (by omega)) dX12_undo_12
def zm_canMove (S : zS2) (a : Int) (b : Int) (c : Int) (d : Int) : Int := zlet (zm_modulo S ((a * d) - (b * c))) (fun z13 => (if z13 = 0 then 0 else 1))
set_option maxRecDepth 100000 in
set_option maxHeartbeats 4000000 in
theorem zk_canMove (l : Launch) {D : va_G} {cI cJ cZ cP cS cM : ClassId} {L : List Nat} {sz : Nat} {f : Nat → va_E} (o : Nat) (S : zS2) (a : Int) (b : Int) (c : Int) (d : Int) (hI : mI S) (ha : -2147483648 ≤ a ∧ a ≤ 2147483647) (hb : -2147483648 ≤ b ∧ b ≤ 2147483647) (hc : -2147483648 ≤ c ∧ c ≤ 2147483647) (hd : -2147483648 ≤ d ∧ d ≤ 2147483647) : zMi l yX12_canMove wsX12_canMove 1 24 D (zT cI cJ cZ cP cS cM) L sz (zMO cI cJ o S f) [.ref o, .int (zI a), .int (zI b), .int (zI c), .int (zI d)] (fun zv gv => zv = zm_canMove S a b c d ∧ gv = zMO cI cJ o S f ∧ 0 ≤ zv ∧ zv ≤ 1) := by
  refine zWalk.met (nL := 5) (ret := (some .boolean)) (cc := cX12_canMove) (by decide) rfl (Nat.le_of_ble_eq_true rfl) ?_
  intro pg en st mi ag bl mt cd ls CX hW hl
  have CX : zC pg st mi ag mt cd cX12_canMove 5 (some .boolean) RX12 wsX12_canMove := CX
  generalize hQ : MQ bl _ ag st 0 0 _ = Q
  have hX0 := CX.1
  have hB0 := CX.2.1
  have hl : lv_has ls 5 [(0, .ref o), (1, .int (zI a)), (2, .int (zI b)), (3, .int (zI c)), (4, .int (zI d))] := hl
  obtain ⟨H, eH⟩ : ∃ H, H = st.heap := ⟨_, rfl⟩
  obtain ⟨locs, eL⟩ : ∃ L : List Loc, L = [] := ⟨_, rfl⟩
  have hW : zW D (zT cI cJ cZ cP cS cM) L (zQ L sz) st (zMO cI cJ o S f) st.heap H locs := by rw [eH, eL]; exact hW
  suffices hgo : W pg l en ({ frames := 1, cells := 0, slots := 0, locals := 24 } : Room) st mi ag bl mt cd H locs 0 0 Q (F0 mi 0 ls []) by rw [eH, eL] at hgo; exact hgo
  clear eH eL
  have hpb := hI.s10
  refine lv_aload_n hX0 hB0 dX12_canMove_0 rfl (lv_at hl 0 rfl) ?_
  refine lv_iload_n hX0 hB0 dX12_canMove_1 rfl (lv_at hl 1 rfl) ?_
  refine z_i2l CX dX12_canMove_2 (by constructor <;> omega) ?_
  refine lv_iload hX0 hB0 dX12_canMove_3 (lv_at hl 4 rfl) ?_
  refine z_i2l CX dX12_canMove_5 (by constructor <;> omega) ?_
  refine z_lmul (z := a * d) CX dX12_canMove_6 rfl ?_
  have hm6 := zbox_mul (a := a) (b := d) (A := 2147483648) (B := 2147483648) (by constructor <;> omega) (by constructor <;> omega) (C := 4611686018427387904) (by decide)
  refine lv_iload_n hX0 hB0 dX12_canMove_7 rfl (lv_at hl 2 rfl) ?_
  refine z_i2l CX dX12_canMove_8 (by constructor <;> omega) ?_
  refine lv_iload_n hX0 hB0 dX12_canMove_9 rfl (lv_at hl 3 rfl) ?_
  refine z_i2l CX dX12_canMove_10 (by constructor <;> omega) ?_
  refine z_lmul (z := b * c) CX dX12_canMove_11 rfl ?_
  have hm11 := zbox_mul (a := b) (b := c) (A := 2147483648) (B := 2147483648) (by constructor <;> omega) (by constructor <;> omega) (C := 4611686018427387904) (by decide)
  refine z_lsub (z := (a * d) - (b * c)) CX dX12_canMove_12 rfl ?_
  have hx1 := zmul32 ha hd
  have hx2 := zmul32 hb hc
  refine z_calli hW (va_runV (C := RX12) (As := [.long (zL ((a * d) - (b * c)))]) (rest := []) CX.fix (zk_modulo l o S ((a * d) - (b * c)) hI (by constructor <;> omega)) (cwV 1 CX.fix.2.2.2.2 gX12_canMove_X12_modulo rfl rfl rfl (by decide +kernel) ⟨Nat.le_of_ble_eq_true rfl, Nat.le_of_ble_eq_true rfl⟩) (z_preV CX hW (r := (RX12, TX12, 37)) zMO_0 rfl) rfl rfl hl.1 rfl (lv_room (Nat.le_of_ble_eq_true rfl)) dX12_canMove_13 ⟨Nat.zero_le _, Nat.zero_le _⟩) (fun z13 gn H locs hok hW => ?_)
  obtain ⟨hz13, hg, hq13⟩ := hok
  rw [hg] at hW
  clear hg
  have e13 : zm_modulo S ((a * d) - (b * c)) = z13 := hz13.symm
  clear hz13
  refine z_if_eq (tgt := 23) CX dX12_canMove_16 (by decide) (by constructor <;> omega) (fun c_16 => ?_) (fun c_16 => ?_)
  ·
    refine lv_iconst (v := zI 0) hX0 hB0 dX12_canMove_23 rfl ?_
    have hE : zm_canMove S a b c d = 0 := by unfold zm_canMove; exact zlet_e e13 (zif_t c_16 rfl)
    rw [← hQ]
    exact z_iret (z := 0) CX hW (by rw [hE]; exact ⟨rfl, rfl, (show 0 ≤ (0 : Int) ∧ (0 : Int) ≤ 1 from by omega)⟩) rfl dX12_canMove_24
  ·
    refine lv_iconst (v := zI 1) hX0 hB0 dX12_canMove_19 rfl ?_
    refine lv_goto (tgt := 24) hX0 hB0 dX12_canMove_20 (by decide) ?_
    have hE : zm_canMove S a b c d = 1 := by unfold zm_canMove; exact zlet_e e13 (zif_f c_16 rfl)
    rw [← hQ]
    exact z_iret (z := 1) CX hW (by rw [hE]; exact ⟨rfl, rfl, (show 0 ≤ (1 : Int) ∧ (1 : Int) ≤ 1 from by omega)⟩) rfl dX12_canMove_24
def zm_moves_L160  : Int → (Int × zS2) → (Int × zS2) := fun i160 s160 => (fun (w160 : Int) (S160 : zS2) => zlet (zm_multiplies S160 141 141 140) (fun q176 => (fun (z176 : Int) (S176 : zS2) => (if z176 = 0 then (0, S176) else (if w160 = 0 then (0, S176) else (1, S176)))) q176.1 q176.2)) s160.1 s160.2
def zm_moves_L203  : Int → (Int × zS2) → (Int × zS2) := fun i203 s203 => (fun (w203 : Int) (S203 : zS2) => zlet (zm_multiplies S203 141 141 142) (fun q220 => (fun (z220 : Int) (S220 : zS2) => (if z220 = 0 then (0, S220) else (if w203 = 0 then (0, S220) else (1, S220)))) q220.1 q220.2)) s203.1 s203.2
def zm_moves_L104 (cv : Int) (i95 : Int) : Int → zS2 → zS2 := fun i104 s104 => (fun (S104 : zS2) => zlet (zm_cell S104 cv i95 i104) (fun z119 => (if z119 = 0 then S104 else zlet (zm_empties S104 141) (fun S132 => zlet (zm_cell S132 cv i95 i104) (fun z147 => zlet (zm_sets S132 141 0 0 z147) (fun S151 => zlet (zfor (zm_moves_L160) 0 (1, S151) ((i95 - 1) + 1 - 0).toNat) (fun q160 => (fun (w160 : Int) (S160 : zS2) => zlet (zfor (zm_moves_L203) 0 (w160, S160) ((i104 - 1) + 1 - 0).toNat) (fun q203 => (fun (w203 : Int) (S203 : zS2) => (if w203 = 0 then S203 else zlet (zm_adds S203 144 141 1) (fun S257 => S257))) q203.1 q203.2)) q160.1 q160.2))))))) s104
def zm_moves_L95 (cv : Int) : Int → zS2 → zS2 := fun i95 s95 => (fun (S95 : zS2) => zlet (zfor (zm_moves_L104 cv i95) 0 S95 ((4 - i95) + 1 - 0).toNat) (fun S104 => S104)) s95
def zm_moves (S : zS2) (cv : Int) (a : Int) (b : Int) (e : Int) (c : Int) (d : Int) (k : Int) : zS2 := zlet (zm_empties S 140) (fun S8 => zlet (zm_sets S8 140 1 0 a) (fun S18 => zlet (zm_sets S18 140 0 1 b) (fun S28 => zlet (zm_sets S28 140 0 0 e) (fun S39 => zlet (zm_empties S39 142) (fun S46 => zlet (zm_sets S46 142 1 0 c) (fun S58 => zlet (zm_sets S58 142 0 1 d) (fun S70 => zlet (zm_sets S70 142 0 0 k) (fun S82 => zlet (zm_empties S82 144) (fun S89 => zlet (zfor (zm_moves_L95 cv) 0 S89 (4 + 1 - 0 : Int).toNat) (fun S95 => zlet (zm_copies S95 cv 144) (fun S277 => S277)))))))))))
set_option maxRecDepth 100000 in
set_option maxHeartbeats 4000000 in
theorem zk_moves (l : Launch) {D : va_G} {cI cJ cZ cP cS cM : ClassId} {L : List Nat} {sz : Nat} {f : Nat → va_E} (o : Nat) (S : zS2) (cv : Int) (a : Int) (b : Int) (e : Int) (c : Int) (d : Int) (k : Int) (hI : mI S) (hcv : 0 ≤ cv ∧ cv ≤ 5) (ha : -2147483648 ≤ a ∧ a ≤ 2147483647) (hb : -2147483648 ≤ b ∧ b ≤ 2147483647) (he : -2147483648 ≤ e ∧ e ≤ 2147483647) (hc : -2147483648 ≤ c ∧ c ≤ 2147483647) (hd : -2147483648 ≤ d ∧ d ≤ 2147483647) (hk : -2147483648 ≤ k ∧ k ≤ 2147483647) : zMv l yX12_moves wsX12_moves 3 76 D (zT cI cJ cZ cP cS cM) L sz (zMO cI cJ o S f) [.ref o, .int (zI cv), .int (zI a), .int (zI b), .int (zI e), .int (zI c), .int (zI d), .int (zI k)] (fun gv => gv = zMO cI cJ o (zm_moves S cv a b e c d k) f ∧ mI (zm_moves S cv a b e c d k) ∧ (∀ kk ii : Nat, ¬ kk = 3 ∧ ¬ kk = 4 → (zm_moves S cv a b e c d k) kk ii = S kk ii) ∧ True) := by
  refine zWalk.met (nL := 13) (ret := none) (cc := cX12_moves) (by decide) rfl (Nat.le_of_ble_eq_true rfl) ?_
  intro pg en st mi ag bl mt cd ls CX hW hl
  have CX : zC pg st mi ag mt cd cX12_moves 13 none RX12 wsX12_moves := CX
  generalize hQ : MQ bl _ ag st 0 0 _ = Q
  have hX0 := CX.1
  have hB0 := CX.2.1
  have hl : lv_has ls 13 [(0, .ref o), (1, .int (zI cv)), (2, .int (zI a)), (3, .int (zI b)), (4, .int (zI e)), (5, .int (zI c)), (6, .int (zI d)), (7, .int (zI k))] := hl
  obtain ⟨H, eH⟩ : ∃ H, H = st.heap := ⟨_, rfl⟩
  obtain ⟨locs, eL⟩ : ∃ L : List Loc, L = [] := ⟨_, rfl⟩
  have hW : zW D (zT cI cJ cZ cP cS cM) L (zQ L sz) st (zMO cI cJ o S f) st.heap H locs := by rw [eH, eL]; exact hW
  suffices hgo : W pg l en ({ frames := 3, cells := 0, slots := 0, locals := 76 } : Room) st mi ag bl mt cd H locs 0 0 Q (F0 mi 0 ls []) by rw [eH, eL] at hgo; exact hgo
  clear eH eL
  have hpb := hI.s10
  refine lv_sipush (v := zI 140) hX0 hB0 dX12_moves_0 (by decide) ?_
  refine lv_istore (lv' := [(8, .int (zI 140)), (0, .ref o), (1, .int (zI cv)), (2, .int (zI a)), (3, .int (zI b)), (4, .int (zI e)), (5, .int (zI c)), (6, .int (zI d)), (7, .int (zI k))]) hX0 hB0 dX12_moves_3 hl (by decide) rfl (fun ls hl => ?_)
  refine lv_aload_n hX0 hB0 dX12_moves_5 rfl (lv_at hl 1 rfl) ?_
  refine lv_iload hX0 hB0 dX12_moves_6 (lv_at hl 0 rfl) ?_
  refine z_callv hW (va_runV (C := RX12) (As := [.int (zI 140)]) (rest := []) CX.fix (zk_empties l o S 140 hI (by constructor <;> omega)) (cwV 1 CX.fix.2.2.2.2 gX12_moves_X12_empties rfl rfl rfl (by decide +kernel) ⟨Nat.le_of_ble_eq_true rfl, Nat.le_of_ble_eq_true rfl⟩) (z_preV CX hW (r := (RX12, TX12, 37)) zMO_0 rfl) rfl rfl hl.1 rfl (lv_room (Nat.le_of_ble_eq_true rfl)) dX12_moves_8 ⟨Nat.zero_le _, Nat.zero_le _⟩) (fun gn H locs hok hW => ?_)
  obtain ⟨hg, hI8, hf8, hq8⟩ := hok
  obtain ⟨S8, e8⟩ : ∃ q, zm_empties S 140 = q := ⟨_, rfl⟩
  rw [e8] at hg hI8 hf8
  skip
  try rw [e8] at hq8
  rw [hg] at hW
  clear hg
  refine lv_aload_n hX0 hB0 dX12_moves_11 rfl (lv_at hl 1 rfl) ?_
  refine lv_iload hX0 hB0 dX12_moves_12 (lv_at hl 0 rfl) ?_
  refine lv_iconst (v := zI 1) hX0 hB0 dX12_moves_14 rfl ?_
  refine lv_iconst (v := zI 0) hX0 hB0 dX12_moves_15 rfl ?_
  refine lv_iload_n hX0 hB0 dX12_moves_16 rfl (lv_at hl 3 rfl) ?_
  refine z_i2l CX dX12_moves_17 (by constructor <;> omega) ?_
  refine z_callv hW (va_runV (C := RX12) (As := [.int (zI 140), .int (zI 1), .int (zI 0), .long (zL a)]) (rest := []) CX.fix (zk_sets l o S8 140 1 0 a hI8 (by constructor <;> omega) (by constructor <;> omega) (by constructor <;> omega) (by constructor <;> omega)) (cwV 4 CX.fix.2.2.2.2 gX12_moves_X12_sets rfl rfl rfl (by decide +kernel) ⟨Nat.le_of_ble_eq_true rfl, Nat.le_of_ble_eq_true rfl⟩) (z_preV CX hW (r := (RX12, TX12, 37)) zMO_0 rfl) rfl rfl hl.1 rfl (lv_room (Nat.le_of_ble_eq_true rfl)) dX12_moves_18 ⟨Nat.zero_le _, Nat.zero_le _⟩) (fun gn H locs hok hW => ?_)
  obtain ⟨hg, hI18, hf18, hq18⟩ := hok
  obtain ⟨S18, e18⟩ : ∃ q, zm_sets S8 140 1 0 a = q := ⟨_, rfl⟩
  rw [e18] at hg hI18 hf18
  skip
  try rw [e18] at hq18
  rw [hg] at hW
  clear hg
  refine lv_aload_n hX0 hB0 dX12_moves_21 rfl (lv_at hl 1 rfl) ?_
  refine lv_iload hX0 hB0 dX12_moves_22 (lv_at hl 0 rfl) ?_
  refine lv_iconst (v := zI 0) hX0 hB0 dX12_moves_24 rfl ?_
  refine lv_iconst (v := zI 1) hX0 hB0 dX12_moves_25 rfl ?_
  refine lv_iload_n hX0 hB0 dX12_moves_26 rfl (lv_at hl 4 rfl) ?_
  refine z_i2l CX dX12_moves_27 (by constructor <;> omega) ?_
  refine z_callv hW (va_runV (C := RX12) (As := [.int (zI 140), .int (zI 0), .int (zI 1), .long (zL b)]) (rest := []) CX.fix (zk_sets l o S18 140 0 1 b hI18 (by constructor <;> omega) (by constructor <;> omega) (by constructor <;> omega) (by constructor <;> omega)) (cwV 4 CX.fix.2.2.2.2 gX12_moves_X12_sets rfl rfl rfl (by decide +kernel) ⟨Nat.le_of_ble_eq_true rfl, Nat.le_of_ble_eq_true rfl⟩) (z_preV CX hW (r := (RX12, TX12, 37)) zMO_0 rfl) rfl rfl hl.1 rfl (lv_room (Nat.le_of_ble_eq_true rfl)) dX12_moves_28 ⟨Nat.zero_le _, Nat.zero_le _⟩) (fun gn H locs hok hW => ?_)
  obtain ⟨hg, hI28, hf28, hq28⟩ := hok
  obtain ⟨S28, e28⟩ : ∃ q, zm_sets S18 140 0 1 b = q := ⟨_, rfl⟩
  rw [e28] at hg hI28 hf28
  skip
  try rw [e28] at hq28
  rw [hg] at hW
  clear hg
  refine lv_aload_n hX0 hB0 dX12_moves_31 rfl (lv_at hl 1 rfl) ?_
  refine lv_iload hX0 hB0 dX12_moves_32 (lv_at hl 0 rfl) ?_
  refine lv_iconst (v := zI 0) hX0 hB0 dX12_moves_34 rfl ?_
  refine lv_iconst (v := zI 0) hX0 hB0 dX12_moves_35 rfl ?_
  refine lv_iload hX0 hB0 dX12_moves_36 (lv_at hl 5 rfl) ?_
  refine z_i2l CX dX12_moves_38 (by constructor <;> omega) ?_
  refine z_callv hW (va_runV (C := RX12) (As := [.int (zI 140), .int (zI 0), .int (zI 0), .long (zL e)]) (rest := []) CX.fix (zk_sets l o S28 140 0 0 e hI28 (by constructor <;> omega) (by constructor <;> omega) (by constructor <;> omega) (by constructor <;> omega)) (cwV 4 CX.fix.2.2.2.2 gX12_moves_X12_sets rfl rfl rfl (by decide +kernel) ⟨Nat.le_of_ble_eq_true rfl, Nat.le_of_ble_eq_true rfl⟩) (z_preV CX hW (r := (RX12, TX12, 37)) zMO_0 rfl) rfl rfl hl.1 rfl (lv_room (Nat.le_of_ble_eq_true rfl)) dX12_moves_39 ⟨Nat.zero_le _, Nat.zero_le _⟩) (fun gn H locs hok hW => ?_)
  obtain ⟨hg, hI39, hf39, hq39⟩ := hok
  obtain ⟨S39, e39⟩ : ∃ q, zm_sets S28 140 0 0 e = q := ⟨_, rfl⟩
  rw [e39] at hg hI39 hf39
  skip
  try rw [e39] at hq39
  rw [hg] at hW
  clear hg
  refine lv_aload_n hX0 hB0 dX12_moves_42 rfl (lv_at hl 1 rfl) ?_
  refine lv_sipush (v := zI 142) hX0 hB0 dX12_moves_43 (by decide) ?_
  refine z_callv hW (va_runV (C := RX12) (As := [.int (zI 142)]) (rest := []) CX.fix (zk_empties l o S39 142 hI39 (by constructor <;> omega)) (cwV 1 CX.fix.2.2.2.2 gX12_moves_X12_empties rfl rfl rfl (by decide +kernel) ⟨Nat.le_of_ble_eq_true rfl, Nat.le_of_ble_eq_true rfl⟩) (z_preV CX hW (r := (RX12, TX12, 37)) zMO_0 rfl) rfl rfl hl.1 rfl (lv_room (Nat.le_of_ble_eq_true rfl)) dX12_moves_46 ⟨Nat.zero_le _, Nat.zero_le _⟩) (fun gn H locs hok hW => ?_)
  obtain ⟨hg, hI46, hf46, hq46⟩ := hok
  obtain ⟨S46, e46⟩ : ∃ q, zm_empties S39 142 = q := ⟨_, rfl⟩
  rw [e46] at hg hI46 hf46
  skip
  try rw [e46] at hq46
  rw [hg] at hW
  clear hg
  refine lv_aload_n hX0 hB0 dX12_moves_49 rfl (lv_at hl 1 rfl) ?_
  refine lv_sipush (v := zI 142) hX0 hB0 dX12_moves_50 (by decide) ?_
  refine lv_iconst (v := zI 1) hX0 hB0 dX12_moves_53 rfl ?_
  refine lv_iconst (v := zI 0) hX0 hB0 dX12_moves_54 rfl ?_
  refine lv_iload hX0 hB0 dX12_moves_55 (lv_at hl 6 rfl) ?_
  refine z_i2l CX dX12_moves_57 (by constructor <;> omega) ?_
  refine z_callv hW (va_runV (C := RX12) (As := [.int (zI 142), .int (zI 1), .int (zI 0), .long (zL c)]) (rest := []) CX.fix (zk_sets l o S46 142 1 0 c hI46 (by constructor <;> omega) (by constructor <;> omega) (by constructor <;> omega) (by constructor <;> omega)) (cwV 4 CX.fix.2.2.2.2 gX12_moves_X12_sets rfl rfl rfl (by decide +kernel) ⟨Nat.le_of_ble_eq_true rfl, Nat.le_of_ble_eq_true rfl⟩) (z_preV CX hW (r := (RX12, TX12, 37)) zMO_0 rfl) rfl rfl hl.1 rfl (lv_room (Nat.le_of_ble_eq_true rfl)) dX12_moves_58 ⟨Nat.zero_le _, Nat.zero_le _⟩) (fun gn H locs hok hW => ?_)
  obtain ⟨hg, hI58, hf58, hq58⟩ := hok
  obtain ⟨S58, e58⟩ : ∃ q, zm_sets S46 142 1 0 c = q := ⟨_, rfl⟩
  rw [e58] at hg hI58 hf58
  skip
  try rw [e58] at hq58
  rw [hg] at hW
  clear hg
  refine lv_aload_n hX0 hB0 dX12_moves_61 rfl (lv_at hl 1 rfl) ?_
  refine lv_sipush (v := zI 142) hX0 hB0 dX12_moves_62 (by decide) ?_
  refine lv_iconst (v := zI 0) hX0 hB0 dX12_moves_65 rfl ?_
  refine lv_iconst (v := zI 1) hX0 hB0 dX12_moves_66 rfl ?_
  refine lv_iload hX0 hB0 dX12_moves_67 (lv_at hl 7 rfl) ?_
  refine z_i2l CX dX12_moves_69 (by constructor <;> omega) ?_
  refine z_callv hW (va_runV (C := RX12) (As := [.int (zI 142), .int (zI 0), .int (zI 1), .long (zL d)]) (rest := []) CX.fix (zk_sets l o S58 142 0 1 d hI58 (by constructor <;> omega) (by constructor <;> omega) (by constructor <;> omega) (by constructor <;> omega)) (cwV 4 CX.fix.2.2.2.2 gX12_moves_X12_sets rfl rfl rfl (by decide +kernel) ⟨Nat.le_of_ble_eq_true rfl, Nat.le_of_ble_eq_true rfl⟩) (z_preV CX hW (r := (RX12, TX12, 37)) zMO_0 rfl) rfl rfl hl.1 rfl (lv_room (Nat.le_of_ble_eq_true rfl)) dX12_moves_70 ⟨Nat.zero_le _, Nat.zero_le _⟩) (fun gn H locs hok hW => ?_)
  obtain ⟨hg, hI70, hf70, hq70⟩ := hok
  obtain ⟨S70, e70⟩ : ∃ q, zm_sets S58 142 0 1 d = q := ⟨_, rfl⟩
  rw [e70] at hg hI70 hf70
  skip
  try rw [e70] at hq70
  rw [hg] at hW
  clear hg
  refine lv_aload_n hX0 hB0 dX12_moves_73 rfl (lv_at hl 1 rfl) ?_
  refine lv_sipush (v := zI 142) hX0 hB0 dX12_moves_74 (by decide) ?_
  refine lv_iconst (v := zI 0) hX0 hB0 dX12_moves_77 rfl ?_
  refine lv_iconst (v := zI 0) hX0 hB0 dX12_moves_78 rfl ?_
  refine lv_iload hX0 hB0 dX12_moves_79 (lv_at hl 8 rfl) ?_
  refine z_i2l CX dX12_moves_81 (by constructor <;> omega) ?_
  refine z_callv hW (va_runV (C := RX12) (As := [.int (zI 142), .int (zI 0), .int (zI 0), .long (zL k)]) (rest := []) CX.fix (zk_sets l o S70 142 0 0 k hI70 (by constructor <;> omega) (by constructor <;> omega) (by constructor <;> omega) (by constructor <;> omega)) (cwV 4 CX.fix.2.2.2.2 gX12_moves_X12_sets rfl rfl rfl (by decide +kernel) ⟨Nat.le_of_ble_eq_true rfl, Nat.le_of_ble_eq_true rfl⟩) (z_preV CX hW (r := (RX12, TX12, 37)) zMO_0 rfl) rfl rfl hl.1 rfl (lv_room (Nat.le_of_ble_eq_true rfl)) dX12_moves_82 ⟨Nat.zero_le _, Nat.zero_le _⟩) (fun gn H locs hok hW => ?_)
  obtain ⟨hg, hI82, hf82, hq82⟩ := hok
  obtain ⟨S82, e82⟩ : ∃ q, zm_sets S70 142 0 0 k = q := ⟨_, rfl⟩
  rw [e82] at hg hI82 hf82
  skip
  try rw [e82] at hq82
  rw [hg] at hW
  clear hg
  refine lv_aload_n hX0 hB0 dX12_moves_85 rfl (lv_at hl 1 rfl) ?_
  refine lv_sipush (v := zI 144) hX0 hB0 dX12_moves_86 (by decide) ?_
  refine z_callv hW (va_runV (C := RX12) (As := [.int (zI 144)]) (rest := []) CX.fix (zk_empties l o S82 144 hI82 (by constructor <;> omega)) (cwV 1 CX.fix.2.2.2.2 gX12_moves_X12_empties rfl rfl rfl (by decide +kernel) ⟨Nat.le_of_ble_eq_true rfl, Nat.le_of_ble_eq_true rfl⟩) (z_preV CX hW (r := (RX12, TX12, 37)) zMO_0 rfl) rfl rfl hl.1 rfl (lv_room (Nat.le_of_ble_eq_true rfl)) dX12_moves_89 ⟨Nat.zero_le _, Nat.zero_le _⟩) (fun gn H locs hok hW => ?_)
  obtain ⟨hg, hI89, hf89, hq89⟩ := hok
  obtain ⟨S89, e89⟩ : ∃ q, zm_empties S82 144 = q := ⟨_, rfl⟩
  rw [e89] at hg hI89 hf89
  skip
  try rw [e89] at hq89
  rw [hg] at hW
  clear hg
  refine lv_iconst (v := zI 0) hX0 hB0 dX12_moves_92 rfl ?_
  refine lv_istore (lv' := [(9, .int (zI 0)), (8, .int (zI 140)), (0, .ref o), (1, .int (zI cv)), (2, .int (zI a)), (3, .int (zI b)), (4, .int (zI e)), (5, .int (zI c)), (6, .int (zI d)), (7, .int (zI k))]) hX0 hB0 dX12_moves_93 hl (by decide) rfl (fun ls hl => ?_)
  have hL95 : ∀ (fu : Nat) (i95 : Int) (S95 : zS2), ((0 ≤ i95 ∧ i95 ≤ 4 + 1) ∧ zfor (zm_moves_L95 cv) 0 S89 (i95 - 0).toNat = S95 ∧ mI S95 ∧ (∀ kk ii : Nat, ¬ kk = 3 ∧ ¬ kk = 4 → S95 kk ii = S89 kk ii)) → (4 + 1 - i95).toNat < fu → ∀ (H : Heap) (locs : List Loc) (ls : Array Slot), zW D (zT cI cJ cZ cP cS cM) L (zQ L sz) st (zMO cI cJ o S95 f) st.heap H locs → lv_has ls 13 [(9, .int (zI i95)), (8, .int (zI 140)), (0, .ref o), (1, .int (zI cv)), (2, .int (zI a)), (3, .int (zI b)), (4, .int (zI e)), (5, .int (zI c)), (6, .int (zI d)), (7, .int (zI k))] → W pg l en ({ frames := 3, cells := 0, slots := 0, locals := 76 } : Room) st mi ag bl mt cd H locs 0 0 Q (F0 mi 95 ls []) := by
    intro fu
    induction fu with
    | zero => intro i95 S95 _ hfu; exact absurd hfu (Nat.not_lt_zero _)
    | succ fu ih95 =>
      intro i95 S95 hinv hfu95 H locs ls hW hl
      obtain ⟨⟨hlo95, hhi95⟩, hz95, hI95, hf95⟩ := hinv
      have hp95 := hI95.s10
      refine lv_iload hX0 hB0 dX12_moves_95 (lv_at hl 0 rfl) ?_
      refine lv_iconst (v := zI 4) hX0 hB0 dX12_moves_97 rfl ?_
      refine z_icmp_gt (tgt := 272) CX dX12_moves_98 (by decide) (by constructor <;> omega) (by constructor <;> omega) (fun c_98 => ?_) (fun c_98 => ?_)
      ·
        have e95 : zfor (zm_moves_L95 cv) 0 S89 (4 + 1 - 0 : Int).toNat = S95 := by rw [show (4 + 1 - 0 : Int).toNat = (i95 - 0).toNat by omega]; exact hz95
        refine lv_aload_n hX0 hB0 dX12_moves_272 rfl (lv_at hl 2 rfl) ?_
        refine lv_iload_n hX0 hB0 dX12_moves_273 rfl (lv_at hl 3 rfl) ?_
        refine lv_sipush (v := zI 144) hX0 hB0 dX12_moves_274 (by decide) ?_
        refine z_callv hW (va_runV (C := RX12) (As := [.int (zI cv), .int (zI 144)]) (rest := []) CX.fix (zk_copies l o S95 cv 144 hI95 (by constructor <;> omega) (by constructor <;> omega)) (cwV 2 CX.fix.2.2.2.2 gX12_moves_X12_copies rfl rfl rfl (by decide +kernel) ⟨Nat.le_of_ble_eq_true rfl, Nat.le_of_ble_eq_true rfl⟩) (z_preV CX hW (r := (RX12, TX12, 37)) zMO_0 rfl) rfl rfl hl.1 rfl (lv_room (Nat.le_of_ble_eq_true rfl)) dX12_moves_277 ⟨Nat.zero_le _, Nat.zero_le _⟩) (fun gn H locs hok hW => ?_)
        obtain ⟨hg, hI277, hf277, hq277⟩ := hok
        obtain ⟨S277, e277⟩ : ∃ q, zm_copies S95 cv 144 = q := ⟨_, rfl⟩
        rw [e277] at hg hI277 hf277
        skip
        try rw [e277] at hq277
        rw [hg] at hW
        clear hg
        have hE : zm_moves S cv a b e c d k = S277 := by unfold zm_moves; exact zlet_e e8 (zlet_e e18 (zlet_e e28 (zlet_e e39 (zlet_e e46 (zlet_e e58 (zlet_e e70 (zlet_e e82 (zlet_e e89 (zlet_e e95 (zlet_e e277 rfl))))))))))
        have hFr : ∀ kk ii : Nat, ¬ kk = 3 ∧ ¬ kk = 4 → S277 kk ii = S kk ii := fun kk ii hk => (((((((((((hf277 kk ii (by omega))).trans (hf95 kk ii (by omega))).trans (hf89 kk ii (by omega))).trans (hf82 kk ii (by omega))).trans (hf70 kk ii (by omega))).trans (hf58 kk ii (by omega))).trans (hf46 kk ii (by omega))).trans (hf39 kk ii (by omega))).trans (hf28 kk ii (by omega))).trans (hf18 kk ii (by omega))).trans (hf8 kk ii (by omega))
        rw [← hQ]
        exact z_vret CX hW (by rw [hE]; exact ⟨rfl, hI277, hFr, trivial⟩) dX12_moves_280
      ·
        refine lv_iconst (v := zI 0) hX0 hB0 dX12_moves_101 rfl ?_
        refine lv_istore (lv' := [(10, .int (zI 0)), (9, .int (zI i95)), (8, .int (zI 140)), (0, .ref o), (1, .int (zI cv)), (2, .int (zI a)), (3, .int (zI b)), (4, .int (zI e)), (5, .int (zI c)), (6, .int (zI d)), (7, .int (zI k))]) hX0 hB0 dX12_moves_102 hl (by decide) rfl (fun ls hl => ?_)
        have hL104 : ∀ (fu : Nat) (i104 : Int) (S104 : zS2), ((0 ≤ i104 ∧ i104 ≤ 4 - i95 + 1) ∧ zfor (zm_moves_L104 cv i95) 0 S95 (i104 - 0).toNat = S104 ∧ mI S104 ∧ (∀ kk ii : Nat, ¬ kk = 3 ∧ ¬ kk = 4 → S104 kk ii = S95 kk ii)) → ((4 - i95) + 1 - i104).toNat < fu → ∀ (H : Heap) (locs : List Loc) (ls : Array Slot), zW D (zT cI cJ cZ cP cS cM) L (zQ L sz) st (zMO cI cJ o S104 f) st.heap H locs → lv_has ls 13 [(10, .int (zI i104)), (9, .int (zI i95)), (8, .int (zI 140)), (0, .ref o), (1, .int (zI cv)), (2, .int (zI a)), (3, .int (zI b)), (4, .int (zI e)), (5, .int (zI c)), (6, .int (zI d)), (7, .int (zI k))] → W pg l en ({ frames := 3, cells := 0, slots := 0, locals := 76 } : Room) st mi ag bl mt cd H locs 0 0 Q (F0 mi 104 ls []) := by
          intro fu
          induction fu with
          | zero => intro i104 S104 _ hfu; exact absurd hfu (Nat.not_lt_zero _)
          | succ fu ih104 =>
            intro i104 S104 hinv hfu104 H locs ls hW hl
            obtain ⟨⟨hlo104, hhi104⟩, hz104, hI104, hf104⟩ := hinv
            have hp104 := hI104.s10
            refine lv_iload hX0 hB0 dX12_moves_104 (lv_at hl 1 rfl) ?_
            refine lv_iload hX0 hB0 dX12_moves_106 (lv_at hl 0 rfl) ?_
            refine z_iadd (z := i95 + i104) CX dX12_moves_108 rfl ?_
            refine lv_iconst (v := zI 4) hX0 hB0 dX12_moves_109 rfl ?_
            refine z_icmp_gt (tgt := 266) CX dX12_moves_110 (by decide) (by constructor <;> omega) (by constructor <;> omega) (fun c_110 => ?_) (fun c_110 => ?_)
            ·
              have e104 : zfor (zm_moves_L104 cv i95) 0 S95 ((4 - i95) + 1 - 0).toNat = S104 := by rw [show ((4 - i95) + 1 - 0).toNat = (i104 - 0).toNat by omega]; exact hz104
              refine lv_iinc (v := zI (i95 + 1)) (lv' := [(9, .int (zI (i95 + 1))), (10, .int (zI i104)), (8, .int (zI 140)), (0, .ref o), (1, .int (zI cv)), (2, .int (zI a)), (3, .int (zI b)), (4, .int (zI e)), (5, .int (zI c)), (6, .int (zI d)), (7, .int (zI k))]) hX0 hB0 dX12_moves_266 hl (k := 1) rfl (zI_add _ _) (by decide) rfl (fun ls hl => ?_)
              refine lv_goto (tgt := 95) hX0 hB0 dX12_moves_269 (by decide) ?_
              exact ih95 (i95 + 1) S104 ⟨⟨by omega, by omega⟩, (zfor_s _ _ _ (by omega)).trans ((congrArg (zm_moves_L95 cv i95) hz95).trans (by unfold zm_moves_L95; exact zlet_e e104 rfl)), hI104, fun kk ii hk => ((hf104 kk ii (by omega))).trans (hf95 kk ii (by omega))⟩ (by omega) H locs ls hW (lv_sub hl [0, 2, 3, 4, 5, 6, 7, 8, 9, 10] rfl)
            ·
              refine lv_aload_n hX0 hB0 dX12_moves_113 rfl (lv_at hl 3 rfl) ?_
              refine lv_iload_n hX0 hB0 dX12_moves_114 rfl (lv_at hl 4 rfl) ?_
              refine lv_iload hX0 hB0 dX12_moves_115 (lv_at hl 1 rfl) ?_
              refine lv_iload hX0 hB0 dX12_moves_117 (lv_at hl 0 rfl) ?_
              refine z_calli hW (va_runV (C := RX12) (As := [.int (zI cv), .int (zI i95), .int (zI i104)]) (rest := []) CX.fix (zk_cell l o S104 cv i95 i104 hI104 (by constructor <;> omega) (by constructor <;> omega) (by constructor <;> omega)) (cwV 3 CX.fix.2.2.2.2 gX12_moves_X12_cell rfl rfl rfl (by decide +kernel) ⟨Nat.le_of_ble_eq_true rfl, Nat.le_of_ble_eq_true rfl⟩) (z_preV CX hW (r := (RX12, TX12, 37)) zMO_0 rfl) rfl rfl hl.1 rfl (lv_room (Nat.le_of_ble_eq_true rfl)) dX12_moves_119 ⟨Nat.zero_le _, Nat.zero_le _⟩) (fun z119 gn H locs hok hW => ?_)
              obtain ⟨hz119, hg, hq119⟩ := hok
              rw [hg] at hW
              clear hg
              have e119 : zm_cell S104 cv i95 i104 = z119 := hz119.symm
              clear hz119
              refine z_if_ne (tgt := 128) CX dX12_moves_122 (by decide) (by constructor <;> omega) (fun c_122 => ?_) (fun c_122 => ?_)
              ·
                refine lv_aload_n hX0 hB0 dX12_moves_128 rfl (lv_at hl 3 rfl) ?_
                refine lv_sipush (v := zI 141) hX0 hB0 dX12_moves_129 (by decide) ?_
                refine z_callv hW (va_runV (C := RX12) (As := [.int (zI 141)]) (rest := []) CX.fix (zk_empties l o S104 141 hI104 (by constructor <;> omega)) (cwV 1 CX.fix.2.2.2.2 gX12_moves_X12_empties rfl rfl rfl (by decide +kernel) ⟨Nat.le_of_ble_eq_true rfl, Nat.le_of_ble_eq_true rfl⟩) (z_preV CX hW (r := (RX12, TX12, 37)) zMO_0 rfl) rfl rfl hl.1 rfl (lv_room (Nat.le_of_ble_eq_true rfl)) dX12_moves_132 ⟨Nat.zero_le _, Nat.zero_le _⟩) (fun gn H locs hok hW => ?_)
                obtain ⟨hg, hI132, hf132, hq132⟩ := hok
                obtain ⟨S132, e132⟩ : ∃ q, zm_empties S104 141 = q := ⟨_, rfl⟩
                rw [e132] at hg hI132 hf132
                skip
                try rw [e132] at hq132
                rw [hg] at hW
                clear hg
                refine lv_aload_n hX0 hB0 dX12_moves_135 rfl (lv_at hl 3 rfl) ?_
                refine lv_sipush (v := zI 141) hX0 hB0 dX12_moves_136 (by decide) ?_
                refine lv_iconst (v := zI 0) hX0 hB0 dX12_moves_139 rfl ?_
                refine lv_iconst (v := zI 0) hX0 hB0 dX12_moves_140 rfl ?_
                refine lv_aload_n hX0 hB0 dX12_moves_141 rfl (lv_at hl 3 rfl) ?_
                refine lv_iload_n hX0 hB0 dX12_moves_142 rfl (lv_at hl 4 rfl) ?_
                refine lv_iload hX0 hB0 dX12_moves_143 (lv_at hl 1 rfl) ?_
                refine lv_iload hX0 hB0 dX12_moves_145 (lv_at hl 0 rfl) ?_
                refine z_calli hW (va_runV (C := RX12) (As := [.int (zI cv), .int (zI i95), .int (zI i104)]) (rest := [.int (zI 0), .int (zI 0), .int (zI 141), .ref o]) CX.fix (zk_cell l o S132 cv i95 i104 hI132 (by constructor <;> omega) (by constructor <;> omega) (by constructor <;> omega)) (cwV 3 CX.fix.2.2.2.2 gX12_moves_X12_cell rfl rfl rfl (by decide +kernel) ⟨Nat.le_of_ble_eq_true rfl, Nat.le_of_ble_eq_true rfl⟩) (z_preV CX hW (r := (RX12, TX12, 37)) zMO_0 rfl) rfl rfl hl.1 rfl (lv_room (Nat.le_of_ble_eq_true rfl)) dX12_moves_147 ⟨Nat.zero_le _, Nat.zero_le _⟩) (fun z147 gn H locs hok hW => ?_)
                obtain ⟨hz147, hg, hq147⟩ := hok
                rw [hg] at hW
                clear hg
                have e147 : zm_cell S132 cv i95 i104 = z147 := hz147.symm
                clear hz147
                refine z_i2l CX dX12_moves_150 (by constructor <;> omega) ?_
                refine z_callv hW (va_runV (C := RX12) (As := [.int (zI 141), .int (zI 0), .int (zI 0), .long (zL z147)]) (rest := []) CX.fix (zk_sets l o S132 141 0 0 z147 hI132 (by constructor <;> omega) (by constructor <;> omega) (by constructor <;> omega) (by constructor <;> omega)) (cwV 4 CX.fix.2.2.2.2 gX12_moves_X12_sets rfl rfl rfl (by decide +kernel) ⟨Nat.le_of_ble_eq_true rfl, Nat.le_of_ble_eq_true rfl⟩) (z_preV CX hW (r := (RX12, TX12, 37)) zMO_0 rfl) rfl rfl hl.1 rfl (lv_room (Nat.le_of_ble_eq_true rfl)) dX12_moves_151 ⟨Nat.zero_le _, Nat.zero_le _⟩) (fun gn H locs hok hW => ?_)
                obtain ⟨hg, hI151, hf151, hq151⟩ := hok
                obtain ⟨S151, e151⟩ : ∃ q, zm_sets S132 141 0 0 z147 = q := ⟨_, rfl⟩
                rw [e151] at hg hI151 hf151
                skip
                try rw [e151] at hq151
                rw [hg] at hW
                clear hg
                refine lv_iconst (v := zI 1) hX0 hB0 dX12_moves_154 rfl ?_
                refine lv_istore (lv' := [(11, .int (zI 1)), (10, .int (zI i104)), (9, .int (zI i95)), (8, .int (zI 140)), (0, .ref o), (1, .int (zI cv)), (2, .int (zI a)), (3, .int (zI b)), (4, .int (zI e)), (5, .int (zI c)), (6, .int (zI d)), (7, .int (zI k))]) hX0 hB0 dX12_moves_155 hl (by decide) rfl (fun ls hl => ?_)
                refine lv_iconst (v := zI 0) hX0 hB0 dX12_moves_157 rfl ?_
                refine lv_istore (lv' := [(12, .int (zI 0)), (11, .int (zI 1)), (10, .int (zI i104)), (9, .int (zI i95)), (8, .int (zI 140)), (0, .ref o), (1, .int (zI cv)), (2, .int (zI a)), (3, .int (zI b)), (4, .int (zI e)), (5, .int (zI c)), (6, .int (zI d)), (7, .int (zI k))]) hX0 hB0 dX12_moves_158 hl (by decide) rfl (fun ls hl => ?_)
                have hL160 : ∀ (fu : Nat) (i160 : Int) (w160 : Int) (S160 : zS2), ((0 ≤ i160 ∧ i160 ≤ i95 - 1 + 1) ∧ zfor (zm_moves_L160) 0 (1, S151) (i160 - 0).toNat = (w160, S160) ∧ mI S160 ∧ (∀ kk ii : Nat, ¬ kk = 3 ∧ ¬ kk = 4 → S160 kk ii = S151 kk ii) ∧ 0 ≤ w160 ∧ w160 ≤ 1) → ((i95 - 1) + 1 - i160).toNat < fu → ∀ (H : Heap) (locs : List Loc) (ls : Array Slot), zW D (zT cI cJ cZ cP cS cM) L (zQ L sz) st (zMO cI cJ o S160 f) st.heap H locs → lv_has ls 13 [(12, .int (zI i160)), (11, .int (zI w160)), (10, .int (zI i104)), (9, .int (zI i95)), (8, .int (zI 140)), (0, .ref o), (1, .int (zI cv)), (2, .int (zI a)), (3, .int (zI b)), (4, .int (zI e)), (5, .int (zI c)), (6, .int (zI d)), (7, .int (zI k))] → W pg l en ({ frames := 3, cells := 0, slots := 0, locals := 76 } : Room) st mi ag bl mt cd H locs 0 0 Q (F0 mi 160 ls []) := by
                  intro fu
                  induction fu with
                  | zero => intro i160 w160 S160 _ hfu; exact absurd hfu (Nat.not_lt_zero _)
                  | succ fu ih160 =>
                    intro i160 w160 S160 hinv hfu160 H locs ls hW hl
                    obtain ⟨⟨hlo160, hhi160⟩, hz160, hI160, hf160, haw160, hbw160⟩ := hinv
                    have hp160 := hI160.s10
                    refine lv_iload hX0 hB0 dX12_moves_160 (lv_at hl 0 rfl) ?_
                    refine lv_iload hX0 hB0 dX12_moves_162 (lv_at hl 3 rfl) ?_
                    refine z_icmp_ge (tgt := 200) CX dX12_moves_164 (by decide) (by constructor <;> omega) (by constructor <;> omega) (fun c_164 => ?_) (fun c_164 => ?_)
                    ·
                      have e160 : zfor (zm_moves_L160) 0 (1, S151) ((i95 - 1) + 1 - 0).toNat = (w160, S160) := by rw [show ((i95 - 1) + 1 - 0).toNat = (i160 - 0).toNat by omega]; exact hz160
                      refine lv_iconst (v := zI 0) hX0 hB0 dX12_moves_200 rfl ?_
                      refine lv_istore (lv' := [(12, .int (zI 0)), (11, .int (zI w160)), (10, .int (zI i104)), (9, .int (zI i95)), (8, .int (zI 140)), (0, .ref o), (1, .int (zI cv)), (2, .int (zI a)), (3, .int (zI b)), (4, .int (zI e)), (5, .int (zI c)), (6, .int (zI d)), (7, .int (zI k))]) hX0 hB0 dX12_moves_201 hl (by decide) rfl (fun ls hl => ?_)
                      have hL203 : ∀ (fu : Nat) (i203 : Int) (w203 : Int) (S203 : zS2), ((0 ≤ i203 ∧ i203 ≤ i104 - 1 + 1) ∧ zfor (zm_moves_L203) 0 (w160, S160) (i203 - 0).toNat = (w203, S203) ∧ mI S203 ∧ (∀ kk ii : Nat, ¬ kk = 3 ∧ ¬ kk = 4 → S203 kk ii = S160 kk ii) ∧ 0 ≤ w203 ∧ w203 ≤ 1) → ((i104 - 1) + 1 - i203).toNat < fu → ∀ (H : Heap) (locs : List Loc) (ls : Array Slot), zW D (zT cI cJ cZ cP cS cM) L (zQ L sz) st (zMO cI cJ o S203 f) st.heap H locs → lv_has ls 13 [(12, .int (zI i203)), (11, .int (zI w203)), (10, .int (zI i104)), (9, .int (zI i95)), (8, .int (zI 140)), (0, .ref o), (1, .int (zI cv)), (2, .int (zI a)), (3, .int (zI b)), (4, .int (zI e)), (5, .int (zI c)), (6, .int (zI d)), (7, .int (zI k))] → W pg l en ({ frames := 3, cells := 0, slots := 0, locals := 76 } : Room) st mi ag bl mt cd H locs 0 0 Q (F0 mi 203 ls []) := by
                        intro fu
                        induction fu with
                        | zero => intro i203 w203 S203 _ hfu; exact absurd hfu (Nat.not_lt_zero _)
                        | succ fu ih203 =>
                          intro i203 w203 S203 hinv hfu203 H locs ls hW hl
                          obtain ⟨⟨hlo203, hhi203⟩, hz203, hI203, hf203, haw203, hbw203⟩ := hinv
                          have hp203 := hI203.s10
                          refine lv_iload hX0 hB0 dX12_moves_203 (lv_at hl 0 rfl) ?_
                          refine lv_iload hX0 hB0 dX12_moves_205 (lv_at hl 2 rfl) ?_
                          refine z_icmp_ge (tgt := 244) CX dX12_moves_207 (by decide) (by constructor <;> omega) (by constructor <;> omega) (fun c_207 => ?_) (fun c_207 => ?_)
                          ·
                            have e203 : zfor (zm_moves_L203) 0 (w160, S160) ((i104 - 1) + 1 - 0).toNat = (w203, S203) := by rw [show ((i104 - 1) + 1 - 0).toNat = (i203 - 0).toNat by omega]; exact hz203
                            refine lv_iload hX0 hB0 dX12_moves_244 (lv_at hl 1 rfl) ?_
                            refine z_if_eq (tgt := 260) CX dX12_moves_246 (by decide) (by constructor <;> omega) (fun c_246 => ?_) (fun c_246 => ?_)
                            ·
                              refine lv_iinc (v := zI (i104 + 1)) (lv' := [(10, .int (zI (i104 + 1))), (12, .int (zI i203)), (11, .int (zI w203)), (9, .int (zI i95)), (8, .int (zI 140)), (0, .ref o), (1, .int (zI cv)), (2, .int (zI a)), (3, .int (zI b)), (4, .int (zI e)), (5, .int (zI c)), (6, .int (zI d)), (7, .int (zI k))]) hX0 hB0 dX12_moves_260 hl (k := 2) rfl (zI_add _ _) (by decide) rfl (fun ls hl => ?_)
                              refine lv_goto (tgt := 104) hX0 hB0 dX12_moves_263 (by decide) ?_
                              exact ih104 (i104 + 1) S203 ⟨⟨by omega, by omega⟩, (zfor_s _ _ _ (by omega)).trans ((congrArg (zm_moves_L104 cv i95 i104) hz104).trans (by unfold zm_moves_L104; exact zlet_e e119 (zif_f c_122 (zlet_e e132 (zlet_e e147 (zlet_e e151 (zlet_e e160 (zlet_e e203 (zif_t c_246 rfl))))))))), hI203, fun kk ii hk => (((((hf203 kk ii (by omega))).trans (hf160 kk ii (by omega))).trans (hf151 kk ii (by omega))).trans (hf132 kk ii (by omega))).trans (hf104 kk ii (by omega))⟩ (by omega) H locs ls hW (lv_sub hl [0, 3, 4, 5, 6, 7, 8, 9, 10, 11, 12] rfl)
                            ·
                              refine lv_aload_n hX0 hB0 dX12_moves_249 rfl (lv_at hl 5 rfl) ?_
                              refine lv_sipush (v := zI 144) hX0 hB0 dX12_moves_250 (by decide) ?_
                              refine lv_sipush (v := zI 141) hX0 hB0 dX12_moves_253 (by decide) ?_
                              refine lv_lconst (v := zL 1) hX0 hB0 dX12_moves_256 rfl ?_
                              refine z_callv hW (va_runV (C := RX12) (As := [.int (zI 144), .int (zI 141), .long (zL 1)]) (rest := []) CX.fix (zk_adds l o S203 144 141 1 hI203 (by constructor <;> omega) (by constructor <;> omega) (by constructor <;> omega)) (cwV 3 CX.fix.2.2.2.2 gX12_moves_X12_adds rfl rfl rfl (by decide +kernel) ⟨Nat.le_of_ble_eq_true rfl, Nat.le_of_ble_eq_true rfl⟩) (z_preV CX hW (r := (RX12, TX12, 37)) zMO_0 rfl) rfl rfl hl.1 rfl (lv_room (Nat.le_of_ble_eq_true rfl)) dX12_moves_257 ⟨Nat.zero_le _, Nat.zero_le _⟩) (fun gn H locs hok hW => ?_)
                              obtain ⟨hg, hI257, hf257, hq257⟩ := hok
                              obtain ⟨S257, e257⟩ : ∃ q, zm_adds S203 144 141 1 = q := ⟨_, rfl⟩
                              rw [e257] at hg hI257 hf257
                              skip
                              try rw [e257] at hq257
                              rw [hg] at hW
                              clear hg
                              refine lv_iinc (v := zI (i104 + 1)) (lv' := [(10, .int (zI (i104 + 1))), (12, .int (zI i203)), (11, .int (zI w203)), (9, .int (zI i95)), (8, .int (zI 140)), (0, .ref o), (1, .int (zI cv)), (2, .int (zI a)), (3, .int (zI b)), (4, .int (zI e)), (5, .int (zI c)), (6, .int (zI d)), (7, .int (zI k))]) hX0 hB0 dX12_moves_260 hl (k := 2) rfl (zI_add _ _) (by decide) rfl (fun ls hl => ?_)
                              refine lv_goto (tgt := 104) hX0 hB0 dX12_moves_263 (by decide) ?_
                              exact ih104 (i104 + 1) S257 ⟨⟨by omega, by omega⟩, (zfor_s _ _ _ (by omega)).trans ((congrArg (zm_moves_L104 cv i95 i104) hz104).trans (by unfold zm_moves_L104; exact zlet_e e119 (zif_f c_122 (zlet_e e132 (zlet_e e147 (zlet_e e151 (zlet_e e160 (zlet_e e203 (zif_f c_246 (zlet_e e257 rfl)))))))))), hI257, fun kk ii hk => ((((((hf257 kk ii (by omega))).trans (hf203 kk ii (by omega))).trans (hf160 kk ii (by omega))).trans (hf151 kk ii (by omega))).trans (hf132 kk ii (by omega))).trans (hf104 kk ii (by omega))⟩ (by omega) H locs ls hW (lv_sub hl [0, 3, 4, 5, 6, 7, 8, 9, 10, 11, 12] rfl)
                          ·
                            refine lv_aload_n hX0 hB0 dX12_moves_210 rfl (lv_at hl 5 rfl) ?_
                            refine lv_sipush (v := zI 141) hX0 hB0 dX12_moves_211 (by decide) ?_
                            refine lv_sipush (v := zI 141) hX0 hB0 dX12_moves_214 (by decide) ?_
                            refine lv_sipush (v := zI 142) hX0 hB0 dX12_moves_217 (by decide) ?_
                            refine z_calli hW (va_runV (C := RX12) (As := [.int (zI 141), .int (zI 141), .int (zI 142)]) (rest := []) CX.fix (zk_multiplies l o S203 141 141 142 hI203 (by constructor <;> omega) (by constructor <;> omega) (by constructor <;> omega)) (cwV 3 CX.fix.2.2.2.2 gX12_moves_X12_multiplies rfl rfl rfl (by decide +kernel) ⟨Nat.le_of_ble_eq_true rfl, Nat.le_of_ble_eq_true rfl⟩) (z_preV CX hW (r := (RX12, TX12, 37)) zMO_0 rfl) rfl rfl hl.1 rfl (lv_room (Nat.le_of_ble_eq_true rfl)) dX12_moves_220 ⟨Nat.zero_le _, Nat.zero_le _⟩) (fun z220 gn H locs hok hW => ?_)
                            obtain ⟨hz220, hg, hI220, hf220, hq220⟩ := hok
                            obtain ⟨S220, hS220⟩ : ∃ q, q = (zm_multiplies S203 141 141 142).2 := ⟨_, rfl⟩
                            rw [← hS220] at hg hI220 hf220
                            skip
                            try rw [← hS220] at hq220
                            rw [hg] at hW
                            clear hg
                            have e220 : zm_multiplies S203 141 141 142 = (z220, S220) := Prod.ext hz220.symm hS220.symm
                            clear hz220 hS220
                            refine z_if_eq (tgt := 235) CX dX12_moves_223 (by decide) (by constructor <;> omega) (fun c_223 => ?_) (fun c_223 => ?_)
                            ·
                              refine lv_iconst (v := zI 0) hX0 hB0 dX12_moves_235 rfl ?_
                              refine lv_istore (lv' := [(11, .int (zI 0)), (12, .int (zI i203)), (10, .int (zI i104)), (9, .int (zI i95)), (8, .int (zI 140)), (0, .ref o), (1, .int (zI cv)), (2, .int (zI a)), (3, .int (zI b)), (4, .int (zI e)), (5, .int (zI c)), (6, .int (zI d)), (7, .int (zI k))]) hX0 hB0 dX12_moves_236 hl (by decide) rfl (fun ls hl => ?_)
                              refine lv_iinc (v := zI (i203 + 1)) (lv' := [(12, .int (zI (i203 + 1))), (11, .int (zI 0)), (10, .int (zI i104)), (9, .int (zI i95)), (8, .int (zI 140)), (0, .ref o), (1, .int (zI cv)), (2, .int (zI a)), (3, .int (zI b)), (4, .int (zI e)), (5, .int (zI c)), (6, .int (zI d)), (7, .int (zI k))]) hX0 hB0 dX12_moves_238 hl (k := 1) rfl (zI_add _ _) (by decide) rfl (fun ls hl => ?_)
                              refine lv_goto (tgt := 203) hX0 hB0 dX12_moves_241 (by decide) ?_
                              exact ih203 (i203 + 1) 0 S220 ⟨⟨by omega, by omega⟩, (zfor_s _ _ _ (by omega)).trans ((congrArg (zm_moves_L203 i203) hz203).trans (by unfold zm_moves_L203; exact zlet_e e220 (zif_t c_223 rfl))), hI220, fun kk ii hk => ((hf220 kk ii (by omega))).trans (hf203 kk ii (by omega)), by omega, by omega⟩ (by omega) H locs ls hW (lv_sub hl [0, 1, 2, 3, 4, 5, 6, 7, 8, 9, 10, 11, 12] rfl)
                            ·
                              refine lv_iload hX0 hB0 dX12_moves_226 (lv_at hl 1 rfl) ?_
                              refine z_if_eq (tgt := 235) CX dX12_moves_228 (by decide) (by constructor <;> omega) (fun c_228 => ?_) (fun c_228 => ?_)
                              ·
                                refine lv_iconst (v := zI 0) hX0 hB0 dX12_moves_235 rfl ?_
                                refine lv_istore (lv' := [(11, .int (zI 0)), (12, .int (zI i203)), (10, .int (zI i104)), (9, .int (zI i95)), (8, .int (zI 140)), (0, .ref o), (1, .int (zI cv)), (2, .int (zI a)), (3, .int (zI b)), (4, .int (zI e)), (5, .int (zI c)), (6, .int (zI d)), (7, .int (zI k))]) hX0 hB0 dX12_moves_236 hl (by decide) rfl (fun ls hl => ?_)
                                refine lv_iinc (v := zI (i203 + 1)) (lv' := [(12, .int (zI (i203 + 1))), (11, .int (zI 0)), (10, .int (zI i104)), (9, .int (zI i95)), (8, .int (zI 140)), (0, .ref o), (1, .int (zI cv)), (2, .int (zI a)), (3, .int (zI b)), (4, .int (zI e)), (5, .int (zI c)), (6, .int (zI d)), (7, .int (zI k))]) hX0 hB0 dX12_moves_238 hl (k := 1) rfl (zI_add _ _) (by decide) rfl (fun ls hl => ?_)
                                refine lv_goto (tgt := 203) hX0 hB0 dX12_moves_241 (by decide) ?_
                                exact ih203 (i203 + 1) 0 S220 ⟨⟨by omega, by omega⟩, (zfor_s _ _ _ (by omega)).trans ((congrArg (zm_moves_L203 i203) hz203).trans (by unfold zm_moves_L203; exact zlet_e e220 (zif_f c_223 (zif_t c_228 rfl)))), hI220, fun kk ii hk => ((hf220 kk ii (by omega))).trans (hf203 kk ii (by omega)), by omega, by omega⟩ (by omega) H locs ls hW (lv_sub hl [0, 1, 2, 3, 4, 5, 6, 7, 8, 9, 10, 11, 12] rfl)
                              ·
                                refine lv_iconst (v := zI 1) hX0 hB0 dX12_moves_231 rfl ?_
                                refine lv_goto (tgt := 236) hX0 hB0 dX12_moves_232 (by decide) ?_
                                refine lv_istore (lv' := [(11, .int (zI 1)), (12, .int (zI i203)), (10, .int (zI i104)), (9, .int (zI i95)), (8, .int (zI 140)), (0, .ref o), (1, .int (zI cv)), (2, .int (zI a)), (3, .int (zI b)), (4, .int (zI e)), (5, .int (zI c)), (6, .int (zI d)), (7, .int (zI k))]) hX0 hB0 dX12_moves_236 hl (by decide) rfl (fun ls hl => ?_)
                                refine lv_iinc (v := zI (i203 + 1)) (lv' := [(12, .int (zI (i203 + 1))), (11, .int (zI 1)), (10, .int (zI i104)), (9, .int (zI i95)), (8, .int (zI 140)), (0, .ref o), (1, .int (zI cv)), (2, .int (zI a)), (3, .int (zI b)), (4, .int (zI e)), (5, .int (zI c)), (6, .int (zI d)), (7, .int (zI k))]) hX0 hB0 dX12_moves_238 hl (k := 1) rfl (zI_add _ _) (by decide) rfl (fun ls hl => ?_)
                                refine lv_goto (tgt := 203) hX0 hB0 dX12_moves_241 (by decide) ?_
                                exact ih203 (i203 + 1) 1 S220 ⟨⟨by omega, by omega⟩, (zfor_s _ _ _ (by omega)).trans ((congrArg (zm_moves_L203 i203) hz203).trans (by unfold zm_moves_L203; exact zlet_e e220 (zif_f c_223 (zif_f c_228 rfl)))), hI220, fun kk ii hk => ((hf220 kk ii (by omega))).trans (hf203 kk ii (by omega)), by omega, by omega⟩ (by omega) H locs ls hW (lv_sub hl [0, 1, 2, 3, 4, 5, 6, 7, 8, 9, 10, 11, 12] rfl)
                      exact hL203 _ 0 w160 S160 ⟨⟨by omega, by omega⟩, zfor_0 _ _ _, hI160, fun kk ii hk => rfl, by omega, by omega⟩ (Nat.lt_succ_self _) H locs ls hW (lv_sub hl [0, 1, 2, 3, 4, 5, 6, 7, 8, 9, 10, 11, 12] rfl)
                    ·
                      refine lv_aload_n hX0 hB0 dX12_moves_167 rfl (lv_at hl 5 rfl) ?_
                      refine lv_sipush (v := zI 141) hX0 hB0 dX12_moves_168 (by decide) ?_
                      refine lv_sipush (v := zI 141) hX0 hB0 dX12_moves_171 (by decide) ?_
                      refine lv_iload hX0 hB0 dX12_moves_174 (lv_at hl 4 rfl) ?_
                      refine z_calli hW (va_runV (C := RX12) (As := [.int (zI 141), .int (zI 141), .int (zI 140)]) (rest := []) CX.fix (zk_multiplies l o S160 141 141 140 hI160 (by constructor <;> omega) (by constructor <;> omega) (by constructor <;> omega)) (cwV 3 CX.fix.2.2.2.2 gX12_moves_X12_multiplies rfl rfl rfl (by decide +kernel) ⟨Nat.le_of_ble_eq_true rfl, Nat.le_of_ble_eq_true rfl⟩) (z_preV CX hW (r := (RX12, TX12, 37)) zMO_0 rfl) rfl rfl hl.1 rfl (lv_room (Nat.le_of_ble_eq_true rfl)) dX12_moves_176 ⟨Nat.zero_le _, Nat.zero_le _⟩) (fun z176 gn H locs hok hW => ?_)
                      obtain ⟨hz176, hg, hI176, hf176, hq176⟩ := hok
                      obtain ⟨S176, hS176⟩ : ∃ q, q = (zm_multiplies S160 141 141 140).2 := ⟨_, rfl⟩
                      rw [← hS176] at hg hI176 hf176
                      skip
                      try rw [← hS176] at hq176
                      rw [hg] at hW
                      clear hg
                      have e176 : zm_multiplies S160 141 141 140 = (z176, S176) := Prod.ext hz176.symm hS176.symm
                      clear hz176 hS176
                      refine z_if_eq (tgt := 191) CX dX12_moves_179 (by decide) (by constructor <;> omega) (fun c_179 => ?_) (fun c_179 => ?_)
                      ·
                        refine lv_iconst (v := zI 0) hX0 hB0 dX12_moves_191 rfl ?_
                        refine lv_istore (lv' := [(11, .int (zI 0)), (12, .int (zI i160)), (10, .int (zI i104)), (9, .int (zI i95)), (8, .int (zI 140)), (0, .ref o), (1, .int (zI cv)), (2, .int (zI a)), (3, .int (zI b)), (4, .int (zI e)), (5, .int (zI c)), (6, .int (zI d)), (7, .int (zI k))]) hX0 hB0 dX12_moves_192 hl (by decide) rfl (fun ls hl => ?_)
                        refine lv_iinc (v := zI (i160 + 1)) (lv' := [(12, .int (zI (i160 + 1))), (11, .int (zI 0)), (10, .int (zI i104)), (9, .int (zI i95)), (8, .int (zI 140)), (0, .ref o), (1, .int (zI cv)), (2, .int (zI a)), (3, .int (zI b)), (4, .int (zI e)), (5, .int (zI c)), (6, .int (zI d)), (7, .int (zI k))]) hX0 hB0 dX12_moves_194 hl (k := 1) rfl (zI_add _ _) (by decide) rfl (fun ls hl => ?_)
                        refine lv_goto (tgt := 160) hX0 hB0 dX12_moves_197 (by decide) ?_
                        exact ih160 (i160 + 1) 0 S176 ⟨⟨by omega, by omega⟩, (zfor_s _ _ _ (by omega)).trans ((congrArg (zm_moves_L160 i160) hz160).trans (by unfold zm_moves_L160; exact zlet_e e176 (zif_t c_179 rfl))), hI176, fun kk ii hk => ((hf176 kk ii (by omega))).trans (hf160 kk ii (by omega)), by omega, by omega⟩ (by omega) H locs ls hW (lv_sub hl [0, 1, 2, 3, 4, 5, 6, 7, 8, 9, 10, 11, 12] rfl)
                      ·
                        refine lv_iload hX0 hB0 dX12_moves_182 (lv_at hl 1 rfl) ?_
                        refine z_if_eq (tgt := 191) CX dX12_moves_184 (by decide) (by constructor <;> omega) (fun c_184 => ?_) (fun c_184 => ?_)
                        ·
                          refine lv_iconst (v := zI 0) hX0 hB0 dX12_moves_191 rfl ?_
                          refine lv_istore (lv' := [(11, .int (zI 0)), (12, .int (zI i160)), (10, .int (zI i104)), (9, .int (zI i95)), (8, .int (zI 140)), (0, .ref o), (1, .int (zI cv)), (2, .int (zI a)), (3, .int (zI b)), (4, .int (zI e)), (5, .int (zI c)), (6, .int (zI d)), (7, .int (zI k))]) hX0 hB0 dX12_moves_192 hl (by decide) rfl (fun ls hl => ?_)
                          refine lv_iinc (v := zI (i160 + 1)) (lv' := [(12, .int (zI (i160 + 1))), (11, .int (zI 0)), (10, .int (zI i104)), (9, .int (zI i95)), (8, .int (zI 140)), (0, .ref o), (1, .int (zI cv)), (2, .int (zI a)), (3, .int (zI b)), (4, .int (zI e)), (5, .int (zI c)), (6, .int (zI d)), (7, .int (zI k))]) hX0 hB0 dX12_moves_194 hl (k := 1) rfl (zI_add _ _) (by decide) rfl (fun ls hl => ?_)
                          refine lv_goto (tgt := 160) hX0 hB0 dX12_moves_197 (by decide) ?_
                          exact ih160 (i160 + 1) 0 S176 ⟨⟨by omega, by omega⟩, (zfor_s _ _ _ (by omega)).trans ((congrArg (zm_moves_L160 i160) hz160).trans (by unfold zm_moves_L160; exact zlet_e e176 (zif_f c_179 (zif_t c_184 rfl)))), hI176, fun kk ii hk => ((hf176 kk ii (by omega))).trans (hf160 kk ii (by omega)), by omega, by omega⟩ (by omega) H locs ls hW (lv_sub hl [0, 1, 2, 3, 4, 5, 6, 7, 8, 9, 10, 11, 12] rfl)
                        ·
                          refine lv_iconst (v := zI 1) hX0 hB0 dX12_moves_187 rfl ?_
                          refine lv_goto (tgt := 192) hX0 hB0 dX12_moves_188 (by decide) ?_
                          refine lv_istore (lv' := [(11, .int (zI 1)), (12, .int (zI i160)), (10, .int (zI i104)), (9, .int (zI i95)), (8, .int (zI 140)), (0, .ref o), (1, .int (zI cv)), (2, .int (zI a)), (3, .int (zI b)), (4, .int (zI e)), (5, .int (zI c)), (6, .int (zI d)), (7, .int (zI k))]) hX0 hB0 dX12_moves_192 hl (by decide) rfl (fun ls hl => ?_)
                          refine lv_iinc (v := zI (i160 + 1)) (lv' := [(12, .int (zI (i160 + 1))), (11, .int (zI 1)), (10, .int (zI i104)), (9, .int (zI i95)), (8, .int (zI 140)), (0, .ref o), (1, .int (zI cv)), (2, .int (zI a)), (3, .int (zI b)), (4, .int (zI e)), (5, .int (zI c)), (6, .int (zI d)), (7, .int (zI k))]) hX0 hB0 dX12_moves_194 hl (k := 1) rfl (zI_add _ _) (by decide) rfl (fun ls hl => ?_)
                          refine lv_goto (tgt := 160) hX0 hB0 dX12_moves_197 (by decide) ?_
                          exact ih160 (i160 + 1) 1 S176 ⟨⟨by omega, by omega⟩, (zfor_s _ _ _ (by omega)).trans ((congrArg (zm_moves_L160 i160) hz160).trans (by unfold zm_moves_L160; exact zlet_e e176 (zif_f c_179 (zif_f c_184 rfl)))), hI176, fun kk ii hk => ((hf176 kk ii (by omega))).trans (hf160 kk ii (by omega)), by omega, by omega⟩ (by omega) H locs ls hW (lv_sub hl [0, 1, 2, 3, 4, 5, 6, 7, 8, 9, 10, 11, 12] rfl)
                exact hL160 _ 0 1 S151 ⟨⟨by omega, by omega⟩, zfor_0 _ _ _, hI151, fun kk ii hk => rfl, by omega, by omega⟩ (Nat.lt_succ_self _) H locs ls hW (lv_sub hl [0, 1, 2, 3, 4, 5, 6, 7, 8, 9, 10, 11, 12] rfl)
              ·
                refine lv_goto (tgt := 260) hX0 hB0 dX12_moves_125 (by decide) ?_
                refine lv_iinc (v := zI (i104 + 1)) (lv' := [(10, .int (zI (i104 + 1))), (9, .int (zI i95)), (8, .int (zI 140)), (0, .ref o), (1, .int (zI cv)), (2, .int (zI a)), (3, .int (zI b)), (4, .int (zI e)), (5, .int (zI c)), (6, .int (zI d)), (7, .int (zI k))]) hX0 hB0 dX12_moves_260 hl (k := 0) rfl (zI_add _ _) (by decide) rfl (fun ls hl => ?_)
                refine lv_goto (tgt := 104) hX0 hB0 dX12_moves_263 (by decide) ?_
                exact ih104 (i104 + 1) S104 ⟨⟨by omega, by omega⟩, (zfor_s _ _ _ (by omega)).trans ((congrArg (zm_moves_L104 cv i95 i104) hz104).trans (by unfold zm_moves_L104; exact zlet_e e119 (zif_t c_122 rfl))), hI104, fun kk ii hk => (hf104 kk ii (by omega))⟩ (by omega) H locs ls hW (lv_sub hl [0, 1, 2, 3, 4, 5, 6, 7, 8, 9, 10] rfl)
        exact hL104 _ 0 S95 ⟨⟨by omega, by omega⟩, zfor_0 _ _ _, hI95, fun kk ii hk => rfl⟩ (Nat.lt_succ_self _) H locs ls hW (lv_sub hl [0, 1, 2, 3, 4, 5, 6, 7, 8, 9, 10] rfl)
  exact hL95 _ 0 S89 ⟨⟨by omega, by omega⟩, zfor_0 _ _ _, hI89, fun kk ii hk => rfl⟩ (Nat.lt_succ_self _) H locs ls hW (lv_sub hl [0, 1, 2, 3, 4, 5, 6, 7, 8, 9] rfl)
def zm_move_L26 (a : Int) (b : Int) (e : Int) (c : Int) (d : Int) (k : Int) : Int → zS2 → zS2 := fun i26 s26 => (fun (S26 : zS2) => zlet (zm_moves S26 i26 a b e c d k) (fun S47 => S47)) s26
def zm_move (S : zS2) (a : Int) (b : Int) (e : Int) (c : Int) (d : Int) (k : Int) : Int × zS2 := zlet (zm_canMove S a b c d) (fun z7 => (if z7 = 0 then zlet (zm_isRefused S 2) (fun q15 => (fun (z15 : Int) (S15 : zS2) => (z15, S15)) q15.1 q15.2) else zlet (zm_keeps S) (fun S20 => zlet (zfor (zm_move_L26 a b e c d k) 0 S20 ((S20 0 13 - 1) + 1 - 0).toNat) (fun S26 => (1, S26)))))
set_option maxRecDepth 100000 in
set_option maxHeartbeats 4000000 in
theorem zk_move (l : Launch) {D : va_G} {cI cJ cZ cP cS cM : ClassId} {L : List Nat} {sz : Nat} {f : Nat → va_E} (o : Nat) (S : zS2) (a : Int) (b : Int) (e : Int) (c : Int) (d : Int) (k : Int) (hI : mI S) (ha : -2147483648 ≤ a ∧ a ≤ 2147483647) (hb : -2147483648 ≤ b ∧ b ≤ 2147483647) (he : -2147483648 ≤ e ∧ e ≤ 2147483647) (hc : -2147483648 ≤ c ∧ c ≤ 2147483647) (hd : -2147483648 ≤ d ∧ d ≤ 2147483647) (hk : -2147483648 ≤ k ∧ k ≤ 2147483647) : zMi l yX12_move wsX12_move 4 108 D (zT cI cJ cZ cP cS cM) L sz (zMO cI cJ o S f) [.ref o, .int (zI a), .int (zI b), .int (zI e), .int (zI c), .int (zI d), .int (zI k)] (fun zv gv => zv = (zm_move S a b e c d k).1 ∧ gv = zMO cI cJ o (zm_move S a b e c d k).2 f ∧ mI (zm_move S a b e c d k).2 ∧ (∀ kk ii : Nat, ¬ (kk = 0 ∧ ii = 35) ∧ ¬ kk = 2 ∧ ¬ kk = 20 ∧ ¬ kk = 3 ∧ ¬ kk = 4 → (zm_move S a b e c d k).2 kk ii = S kk ii) ∧ 0 ≤ zv ∧ zv ≤ 1) := by
  refine zWalk.met (nL := 8) (ret := (some .boolean)) (cc := cX12_move) (by decide) rfl (Nat.le_of_ble_eq_true rfl) ?_
  intro pg en st mi ag bl mt cd ls CX hW hl
  have CX : zC pg st mi ag mt cd cX12_move 8 (some .boolean) RX12 wsX12_move := CX
  generalize hQ : MQ bl _ ag st 0 0 _ = Q
  have hX0 := CX.1
  have hB0 := CX.2.1
  have hl : lv_has ls 8 [(0, .ref o), (1, .int (zI a)), (2, .int (zI b)), (3, .int (zI e)), (4, .int (zI c)), (5, .int (zI d)), (6, .int (zI k))] := hl
  obtain ⟨H, eH⟩ : ∃ H, H = st.heap := ⟨_, rfl⟩
  obtain ⟨locs, eL⟩ : ∃ L : List Loc, L = [] := ⟨_, rfl⟩
  have hW : zW D (zT cI cJ cZ cP cS cM) L (zQ L sz) st (zMO cI cJ o S f) st.heap H locs := by rw [eH, eL]; exact hW
  suffices hgo : W pg l en ({ frames := 4, cells := 0, slots := 0, locals := 108 } : Room) st mi ag bl mt cd H locs 0 0 Q (F0 mi 0 ls []) by rw [eH, eL] at hgo; exact hgo
  clear eH eL
  have hpb := hI.s10
  refine lv_aload_n hX0 hB0 dX12_move_0 rfl (lv_at hl 0 rfl) ?_
  refine lv_iload_n hX0 hB0 dX12_move_1 rfl (lv_at hl 1 rfl) ?_
  refine lv_iload_n hX0 hB0 dX12_move_2 rfl (lv_at hl 2 rfl) ?_
  refine lv_iload hX0 hB0 dX12_move_3 (lv_at hl 4 rfl) ?_
  refine lv_iload hX0 hB0 dX12_move_5 (lv_at hl 5 rfl) ?_
  refine z_calli hW (va_runV (C := RX12) (As := [.int (zI a), .int (zI b), .int (zI c), .int (zI d)]) (rest := []) CX.fix (zk_canMove l o S a b c d hI (by constructor <;> omega) (by constructor <;> omega) (by constructor <;> omega) (by constructor <;> omega)) (cwV 4 CX.fix.2.2.2.2 gX12_move_X12_canMove rfl rfl rfl (by decide +kernel) ⟨Nat.le_of_ble_eq_true rfl, Nat.le_of_ble_eq_true rfl⟩) (z_preV CX hW (r := (RX12, TX12, 37)) zMO_0 rfl) rfl rfl hl.1 rfl (lv_room (Nat.le_of_ble_eq_true rfl)) dX12_move_7 ⟨Nat.zero_le _, Nat.zero_le _⟩) (fun z7 gn H locs hok hW => ?_)
  obtain ⟨hz7, hg, hq7⟩ := hok
  rw [hg] at hW
  clear hg
  have e7 : zm_canMove S a b c d = z7 := hz7.symm
  clear hz7
  refine z_if_ne (tgt := 19) CX dX12_move_10 (by decide) (by constructor <;> omega) (fun c_10 => ?_) (fun c_10 => ?_)
  ·
    refine lv_aload_n hX0 hB0 dX12_move_19 rfl (lv_at hl 0 rfl) ?_
    refine z_callv hW (va_runV (C := RX12) (As := []) (rest := []) CX.fix (zk_keeps l o S  hI ) (cwV 0 CX.fix.2.2.2.2 gX12_move_X12_keeps rfl rfl rfl (by decide +kernel) ⟨Nat.le_of_ble_eq_true rfl, Nat.le_of_ble_eq_true rfl⟩) (z_preV CX hW (r := (RX12, TX12, 37)) zMO_0 rfl) rfl rfl hl.1 rfl (lv_room (Nat.le_of_ble_eq_true rfl)) dX12_move_20 ⟨Nat.zero_le _, Nat.zero_le _⟩) (fun gn H locs hok hW => ?_)
    obtain ⟨hg, hI20, hf20, hq20⟩ := hok
    obtain ⟨S20, e20⟩ : ∃ q, zm_keeps S = q := ⟨_, rfl⟩
    rw [e20] at hg hI20 hf20
    have t20_13 : S20 0 13 = S 0 13 := hf20 0 13 (by omega)
    skip
    try rw [e20] at hq20
    rw [hg] at hW
    clear hg
    refine lv_iconst (v := zI 0) hX0 hB0 dX12_move_23 rfl ?_
    refine lv_istore (lv' := [(7, .int (zI 0)), (0, .ref o), (1, .int (zI a)), (2, .int (zI b)), (3, .int (zI e)), (4, .int (zI c)), (5, .int (zI d)), (6, .int (zI k))]) hX0 hB0 dX12_move_24 hl (by decide) rfl (fun ls hl => ?_)
    have hL26 : ∀ (fu : Nat) (i26 : Int) (S26 : zS2), ((0 ≤ i26 ∧ i26 ≤ S20 0 13 - 1 + 1) ∧ zfor (zm_move_L26 a b e c d k) 0 S20 (i26 - 0).toNat = S26 ∧ mI S26 ∧ (∀ kk ii : Nat, ¬ kk = 3 ∧ ¬ kk = 4 → S26 kk ii = S20 kk ii)) → ((S20 0 13 - 1) + 1 - i26).toNat < fu → ∀ (H : Heap) (locs : List Loc) (ls : Array Slot), zW D (zT cI cJ cZ cP cS cM) L (zQ L sz) st (zMO cI cJ o S26 f) st.heap H locs → lv_has ls 8 [(7, .int (zI i26)), (0, .ref o), (1, .int (zI a)), (2, .int (zI b)), (3, .int (zI e)), (4, .int (zI c)), (5, .int (zI d)), (6, .int (zI k))] → W pg l en ({ frames := 4, cells := 0, slots := 0, locals := 108 } : Room) st mi ag bl mt cd H locs 0 0 Q (F0 mi 26 ls []) := by
      intro fu
      induction fu with
      | zero => intro i26 S26 _ hfu; exact absurd hfu (Nat.not_lt_zero _)
      | succ fu ih26 =>
        intro i26 S26 hinv hfu26 H locs ls hW hl
        obtain ⟨⟨hlo26, hhi26⟩, hz26, hI26, hf26⟩ := hinv
        have hp26 := hI26.s10
        have t26_13 : S26 0 13 = S20 0 13 := hf26 0 13 (by omega)
        have hb13 := hI26.s13
        refine lv_iload hX0 hB0 dX12_move_26 (lv_at hl 0 rfl) ?_
        refine lv_aload_n hX0 hB0 dX12_move_28 rfl (lv_at hl 1 rfl) ?_
        refine z_get (Cn := RX12) (T := TX12) (N := 37) CX hW (v := .int (zI (S26 0 13))) zMO_0 rfl (fun w h => List.mem_cons_of_mem _ (List.mem_append_right _ h)) 13 (by decide) (List.mem_of_getElem? (i := 1) rfl) rfl rfl dX12_move_29 ?_
        have hr29 := hI26.s13
        refine z_icmp_ge (tgt := 56) CX dX12_move_32 (by decide) (by constructor <;> omega) (by constructor <;> omega) (fun c_32 => ?_) (fun c_32 => ?_)
        ·
          have e26 : zfor (zm_move_L26 a b e c d k) 0 S20 ((S20 0 13 - 1) + 1 - 0).toNat = S26 := by rw [show ((S20 0 13 - 1) + 1 - 0).toNat = (i26 - 0).toNat by omega]; exact hz26
          refine lv_iconst (v := zI 1) hX0 hB0 dX12_move_56 rfl ?_
          have hE : zm_move S a b e c d k = (1, S26) := by unfold zm_move; exact zlet_e e7 (zif_f c_10 (zlet_e e20 (zlet_e e26 rfl)))
          have hFr : ∀ kk ii : Nat, ¬ (kk = 0 ∧ ii = 35) ∧ ¬ kk = 2 ∧ ¬ kk = 20 ∧ ¬ kk = 3 ∧ ¬ kk = 4 → S26 kk ii = S kk ii := fun kk ii hk => ((hf26 kk ii (by omega))).trans (hf20 kk ii (by omega))
          rw [← hQ]
          exact z_iret (z := 1) CX hW (by rw [hE]; exact ⟨rfl, rfl, hI26, hFr, (show 0 ≤ (1 : Int) ∧ (1 : Int) ≤ 1 from by omega)⟩) rfl dX12_move_57
        ·
          refine lv_aload_n hX0 hB0 dX12_move_35 rfl (lv_at hl 1 rfl) ?_
          refine lv_iload hX0 hB0 dX12_move_36 (lv_at hl 0 rfl) ?_
          refine lv_iload_n hX0 hB0 dX12_move_38 rfl (lv_at hl 2 rfl) ?_
          refine lv_iload_n hX0 hB0 dX12_move_39 rfl (lv_at hl 3 rfl) ?_
          refine lv_iload_n hX0 hB0 dX12_move_40 rfl (lv_at hl 4 rfl) ?_
          refine lv_iload hX0 hB0 dX12_move_41 (lv_at hl 5 rfl) ?_
          refine lv_iload hX0 hB0 dX12_move_43 (lv_at hl 6 rfl) ?_
          refine lv_iload hX0 hB0 dX12_move_45 (lv_at hl 7 rfl) ?_
          refine z_callv hW (va_runV (C := RX12) (As := [.int (zI i26), .int (zI a), .int (zI b), .int (zI e), .int (zI c), .int (zI d), .int (zI k)]) (rest := []) CX.fix (zk_moves l o S26 i26 a b e c d k hI26 (by constructor <;> omega) (by constructor <;> omega) (by constructor <;> omega) (by constructor <;> omega) (by constructor <;> omega) (by constructor <;> omega) (by constructor <;> omega)) (cwV 7 CX.fix.2.2.2.2 gX12_move_X12_moves rfl rfl rfl (by decide +kernel) ⟨Nat.le_of_ble_eq_true rfl, Nat.le_of_ble_eq_true rfl⟩) (z_preV CX hW (r := (RX12, TX12, 37)) zMO_0 rfl) rfl rfl hl.1 rfl (lv_room (Nat.le_of_ble_eq_true rfl)) dX12_move_47 ⟨Nat.zero_le _, Nat.zero_le _⟩) (fun gn H locs hok hW => ?_)
          obtain ⟨hg, hI47, hf47, hq47⟩ := hok
          obtain ⟨S47, e47⟩ : ∃ q, zm_moves S26 i26 a b e c d k = q := ⟨_, rfl⟩
          rw [e47] at hg hI47 hf47
          have t47_13 : S47 0 13 = S26 0 13 := hf47 0 13 (by omega)
          skip
          try rw [e47] at hq47
          rw [hg] at hW
          clear hg
          refine lv_iinc (v := zI (i26 + 1)) (lv' := [(7, .int (zI (i26 + 1))), (0, .ref o), (1, .int (zI a)), (2, .int (zI b)), (3, .int (zI e)), (4, .int (zI c)), (5, .int (zI d)), (6, .int (zI k))]) hX0 hB0 dX12_move_50 hl (k := 0) rfl (zI_add _ _) (by decide) rfl (fun ls hl => ?_)
          refine lv_goto (tgt := 26) hX0 hB0 dX12_move_53 (by decide) ?_
          exact ih26 (i26 + 1) S47 ⟨⟨by omega, by omega⟩, (zfor_s _ _ _ (by omega)).trans ((congrArg (zm_move_L26 a b e c d k i26) hz26).trans (by unfold zm_move_L26; exact zlet_e e47 rfl)), hI47, fun kk ii hk => ((hf47 kk ii (by omega))).trans (hf26 kk ii (by omega))⟩ (by omega) H locs ls hW (lv_sub hl [0, 1, 2, 3, 4, 5, 6, 7] rfl)
    have hb13 := hI20.s13
    exact hL26 _ 0 S20 ⟨⟨by omega, by omega⟩, zfor_0 _ _ _, hI20, fun kk ii hk => rfl⟩ (Nat.lt_succ_self _) H locs ls hW (lv_sub hl [0, 1, 2, 3, 4, 5, 6, 7] rfl)
  ·
    refine lv_aload_n hX0 hB0 dX12_move_13 rfl (lv_at hl 0 rfl) ?_
    refine lv_iconst (v := zI 2) hX0 hB0 dX12_move_14 rfl ?_
    refine z_calli hW (va_runV (C := RX12) (As := [.int (zI 2)]) (rest := []) CX.fix (zk_isRefused l o S 2 hI (by constructor <;> omega)) (cwV 1 CX.fix.2.2.2.2 gX12_move_X12_isRefused rfl rfl rfl (by decide +kernel) ⟨Nat.le_of_ble_eq_true rfl, Nat.le_of_ble_eq_true rfl⟩) (z_preV CX hW (r := (RX12, TX12, 37)) zMO_0 rfl) rfl rfl hl.1 rfl (lv_room (Nat.le_of_ble_eq_true rfl)) dX12_move_15 ⟨Nat.zero_le _, Nat.zero_le _⟩) (fun z15 gn H locs hok hW => ?_)
    obtain ⟨hz15, hg, hI15, hf15, hq15⟩ := hok
    obtain ⟨S15, hS15⟩ : ∃ q, q = (zm_isRefused S 2).2 := ⟨_, rfl⟩
    rw [← hS15] at hg hI15 hf15
    have t15_13 : S15 0 13 = S 0 13 := hf15 0 13 (by omega)
    skip
    try rw [← hS15] at hq15
    rw [hg] at hW
    clear hg
    have e15 : zm_isRefused S 2 = (z15, S15) := Prod.ext hz15.symm hS15.symm
    clear hz15 hS15
    have hE : zm_move S a b e c d k = (z15, S15) := by unfold zm_move; exact zlet_e e7 (zif_t c_10 (zlet_e e15 rfl))
    have hFr : ∀ kk ii : Nat, ¬ (kk = 0 ∧ ii = 35) ∧ ¬ kk = 2 ∧ ¬ kk = 20 ∧ ¬ kk = 3 ∧ ¬ kk = 4 → S15 kk ii = S kk ii := fun kk ii hk => (hf15 kk ii (by omega))
    rw [← hQ]
    exact z_iret (z := z15) CX hW (by rw [hE]; exact ⟨rfl, rfl, hI15, hFr, (show 0 ≤ z15 ∧ z15 ≤ 1 from by omega)⟩) (zI_bool (by omega)) dX12_move_18
end ZMq
