section ZMn
def zm_dividesBy_L31 (a : Int) (z1 : Int) (i22 : Int) : Int → zS2 → zS2 := fun i31 s31 => (fun (S31 : zS2) => zlet (zm_termAt i22 i31) (fun z50 => zlet (zm_cell S31 a i22 i31) (fun z63 => zlet (zm_modulo S31 (-z63)) (fun z68 => zlet (za S31 14 (((30 * z50) + z1).toNat) z68) (fun S71 => S71))))) s31
def zm_dividesBy_L22 (a : Int) (z1 : Int) : Int → zS2 → zS2 := fun i22 s22 => (fun (S22 : zS2) => zlet (zfor (zm_dividesBy_L31 a z1 i22) 0 S22 ((4 - i22) + 1 - 0).toNat) (fun S31 => S31)) s22
def zm_dividesBy_L112 (i98 : Int) : Int → zS2 → zS2 := fun i112 s112 => (fun (S112 : zS2) => zlet (zm_termAt i98 i112) (fun z137 => zlet (zm_sets S112 143 i98 i112 (S112 13 z137.toNat)) (fun S142 => S142))) s112
def zm_dividesBy_W98 (k : Int) (z90 : Int) : Nat → Int → zS2 → Int × zS2
  | 0, i98, S98 => (i98, S98)
  | fu98 + 1, i98, S98 => (if k < i98 then (i98, S98) else (if z90 = 0 then (i98, S98) else zlet (zfor (zm_dividesBy_L112 i98) 0 S98 ((k - i98) + 1 - 0).toNat) (fun S112 => zm_dividesBy_W98 k z90 fu98 (i98 + 1) S112)))
def zm_dividesBy (S : zS2) (a : Int) (k : Int) : zS2 := zlet (zm_manyTerms k) (fun z1 => zlet (zm_emptiesEquations S) (fun S6 => zlet (zm_addsUnknowns S6 0 k 142 1) (fun S16 => zlet (zfor (zm_dividesBy_L22 a z1) 0 S16 (4 + 1 - 0 : Int).toNat) (fun S22 => zlet (zm_solves S22 45 (z1 + 1)) (fun q90 => (fun (z90 : Int) (S90 : zS2) => zlet (zm_dividesBy_W98 k z90 ((7 : Nat)) 0 S90) (fun q98 => (fun (i98 : Int) (S98 : zS2) => S98) q98.1 q98.2)) q90.1 q90.2)))))
set_option maxRecDepth 100000 in
set_option maxHeartbeats 4000000 in
theorem zk_dividesBy (l : Launch) {D : va_G} {cI cJ cZ cP cS cM : ClassId} {L : List Nat} {sz : Nat} {f : Nat → va_E} (o : Nat) (S : zS2) (a : Int) (k : Int) (hI : mI S) (ha : 0 ≤ a ∧ a ≤ 238) (hk : 0 ≤ k ∧ k ≤ 4) : zMv l yX12_dividesBy wsX12_dividesBy 4 99 D (zT cI cJ cZ cP cS cM) L sz (zMO cI cJ o S f) [.ref o, .int (zI a), .int (zI k)] (fun gv => gv = zMO cI cJ o (zm_dividesBy S a k) f ∧ mI (zm_dividesBy S a k) ∧ (∀ kk ii : Nat, ¬ kk = 13 ∧ ¬ kk = 14 ∧ ¬ kk = 15 ∧ ¬ (kk = 3 ∧ 3500 ≤ (ii : Int)) → (zm_dividesBy S a k) kk ii = S kk ii) ∧ True) := by
  refine zWalk.met (nL := 7) (ret := none) (cc := cX12_dividesBy) (by decide) rfl (Nat.le_of_ble_eq_true rfl) ?_
  intro pg en st mi ag bl mt cd ls CX hW hl
  have CX : zC pg st mi ag mt cd cX12_dividesBy 7 none RX12 wsX12_dividesBy := CX
  generalize hQ : MQ bl _ ag st 0 0 _ = Q
  have hX0 := CX.1
  have hB0 := CX.2.1
  have hl : lv_has ls 7 [(0, .ref o), (1, .int (zI a)), (2, .int (zI k))] := hl
  obtain ⟨H, eH⟩ : ∃ H, H = st.heap := ⟨_, rfl⟩
  obtain ⟨locs, eL⟩ : ∃ L : List Loc, L = [] := ⟨_, rfl⟩
  have hW : zW D (zT cI cJ cZ cP cS cM) L (zQ L sz) st (zMO cI cJ o S f) st.heap H locs := by rw [eH, eL]; exact hW
  suffices hgo : W pg l en ({ frames := 4, cells := 0, slots := 0, locals := 99 } : Room) st mi ag bl mt cd H locs 0 0 Q (F0 mi 0 ls []) by rw [eH, eL] at hgo; exact hgo
  clear eH eL
  have hpb := hI.s10
  refine lv_iload_n hX0 hB0 dX12_dividesBy_0 rfl (lv_at hl 2 rfl) ?_
  refine z_calli hW (va_runS (As := [.int (zI k)]) (rest := []) CX.fix (zk_manyTerms l (f := zMO cI cJ o S f) k (by constructor <;> omega)) (va_cwS 1 CX.fix.2.2.2.2 gX12_dividesBy_X12_manyTerms rfl rfl rfl (by decide +kernel) ⟨Nat.le_of_ble_eq_true rfl, Nat.le_of_ble_eq_true rfl⟩) (z_preS CX hW) rfl rfl hl.1 rfl (lv_room (Nat.le_of_ble_eq_true rfl)) dX12_dividesBy_1 ⟨Nat.zero_le _, Nat.zero_le _⟩) (fun z1 gn H locs hok hW => ?_)
  obtain ⟨hz1, hg, hq1⟩ := hok
  rw [hg] at hW
  clear hg
  have e1 : zm_manyTerms k = z1 := hz1.symm
  clear hz1
  refine lv_istore_n (lv' := [(3, .int (zI z1)), (0, .ref o), (1, .int (zI a)), (2, .int (zI k))]) hX0 hB0 dX12_dividesBy_4 rfl hl (by decide) rfl (fun ls hl => ?_)
  refine lv_aload_n hX0 hB0 dX12_dividesBy_5 rfl (lv_at hl 1 rfl) ?_
  refine z_callv hW (va_runV (C := RX12) (As := []) (rest := []) CX.fix (zk_emptiesEquations l o S  hI ) (cwV 0 CX.fix.2.2.2.2 gX12_dividesBy_X12_emptiesEquations rfl rfl rfl (by decide +kernel) ⟨Nat.le_of_ble_eq_true rfl, Nat.le_of_ble_eq_true rfl⟩) (z_preV CX hW (r := (RX12, TX12, 37)) zMO_0 rfl) rfl rfl hl.1 rfl (lv_room (Nat.le_of_ble_eq_true rfl)) dX12_dividesBy_6 ⟨Nat.zero_le _, Nat.zero_le _⟩) (fun gn H locs hok hW => ?_)
  obtain ⟨hg, hI6, hf6, hq6⟩ := hok
  obtain ⟨S6, e6⟩ : ∃ q, zm_emptiesEquations S = q := ⟨_, rfl⟩
  rw [e6] at hg hI6 hf6
  skip
  try rw [e6] at hq6
  rw [hg] at hW
  clear hg
  refine lv_aload_n hX0 hB0 dX12_dividesBy_9 rfl (lv_at hl 1 rfl) ?_
  refine lv_iconst (v := zI 0) hX0 hB0 dX12_dividesBy_10 rfl ?_
  refine lv_iload_n hX0 hB0 dX12_dividesBy_11 rfl (lv_at hl 3 rfl) ?_
  refine lv_sipush (v := zI 142) hX0 hB0 dX12_dividesBy_12 (by decide) ?_
  refine lv_lconst (v := zL 1) hX0 hB0 dX12_dividesBy_15 rfl ?_
  refine z_callv hW (va_runV (C := RX12) (As := [.int (zI 0), .int (zI k), .int (zI 142), .long (zL 1)]) (rest := []) CX.fix (zk_addsUnknowns l o S6 0 k 142 1 hI6 (by constructor <;> omega) (by constructor <;> omega) (by constructor <;> omega) (by constructor <;> omega)) (cwV 4 CX.fix.2.2.2.2 gX12_dividesBy_X12_addsUnknowns rfl rfl rfl (by decide +kernel) ⟨Nat.le_of_ble_eq_true rfl, Nat.le_of_ble_eq_true rfl⟩) (z_preV CX hW (r := (RX12, TX12, 37)) zMO_0 rfl) rfl rfl hl.1 rfl (lv_room (Nat.le_of_ble_eq_true rfl)) dX12_dividesBy_16 ⟨Nat.zero_le _, Nat.zero_le _⟩) (fun gn H locs hok hW => ?_)
  obtain ⟨hg, hI16, hf16, hq16⟩ := hok
  obtain ⟨S16, e16⟩ : ∃ q, zm_addsUnknowns S6 0 k 142 1 = q := ⟨_, rfl⟩
  rw [e16] at hg hI16 hf16
  skip
  try rw [e16] at hq16
  rw [hg] at hW
  clear hg
  refine lv_iconst (v := zI 0) hX0 hB0 dX12_dividesBy_19 rfl ?_
  refine lv_istore (lv' := [(4, .int (zI 0)), (3, .int (zI z1)), (0, .ref o), (1, .int (zI a)), (2, .int (zI k))]) hX0 hB0 dX12_dividesBy_20 hl (by decide) rfl (fun ls hl => ?_)
  have hL22 : ∀ (fu : Nat) (i22 : Int) (S22 : zS2), ((0 ≤ i22 ∧ i22 ≤ 4 + 1) ∧ zfor (zm_dividesBy_L22 a z1) 0 S16 (i22 - 0).toNat = S22 ∧ mI S22 ∧ (∀ kk ii : Nat, ¬ kk = 14 → S22 kk ii = S16 kk ii)) → (4 + 1 - i22).toNat < fu → ∀ (H : Heap) (locs : List Loc) (ls : Array Slot), zW D (zT cI cJ cZ cP cS cM) L (zQ L sz) st (zMO cI cJ o S22 f) st.heap H locs → lv_has ls 7 [(4, .int (zI i22)), (3, .int (zI z1)), (0, .ref o), (1, .int (zI a)), (2, .int (zI k))] → W pg l en ({ frames := 4, cells := 0, slots := 0, locals := 99 } : Room) st mi ag bl mt cd H locs 0 0 Q (F0 mi 22 ls []) := by
    intro fu
    induction fu with
    | zero => intro i22 S22 _ hfu; exact absurd hfu (Nat.not_lt_zero _)
    | succ fu ih22 =>
      intro i22 S22 hinv hfu22 H locs ls hW hl
      obtain ⟨⟨hlo22, hhi22⟩, hz22, hI22, hf22⟩ := hinv
      have hp22 := hI22.s10
      refine lv_iload hX0 hB0 dX12_dividesBy_22 (lv_at hl 0 rfl) ?_
      refine lv_iconst (v := zI 4) hX0 hB0 dX12_dividesBy_24 rfl ?_
      refine z_icmp_gt (tgt := 84) CX dX12_dividesBy_25 (by decide) (by constructor <;> omega) (by constructor <;> omega) (fun c_25 => ?_) (fun c_25 => ?_)
      ·
        have e22 : zfor (zm_dividesBy_L22 a z1) 0 S16 (4 + 1 - 0 : Int).toNat = S22 := by rw [show (4 + 1 - 0 : Int).toNat = (i22 - 0).toNat by omega]; exact hz22
        refine lv_aload_n hX0 hB0 dX12_dividesBy_84 rfl (lv_at hl 2 rfl) ?_
        refine lv_bipush (v := zI 45) hX0 hB0 dX12_dividesBy_85 (by decide) ?_
        refine lv_iload_n hX0 hB0 dX12_dividesBy_87 rfl (lv_at hl 1 rfl) ?_
        refine lv_iconst (v := zI 1) hX0 hB0 dX12_dividesBy_88 rfl ?_
        refine z_iadd (z := z1 + 1) CX dX12_dividesBy_89 rfl ?_
        refine z_calli hW (va_runV (C := RX12) (As := [.int (zI 45), .int (zI (z1 + 1))]) (rest := []) CX.fix (zk_solves l o S22 45 (z1 + 1) hI22 (by constructor <;> omega) (by constructor <;> omega)) (cwV 2 CX.fix.2.2.2.2 gX12_dividesBy_X12_solves rfl rfl rfl (by decide +kernel) ⟨Nat.le_of_ble_eq_true rfl, Nat.le_of_ble_eq_true rfl⟩) (z_preV CX hW (r := (RX12, TX12, 37)) zMO_0 rfl) rfl rfl hl.1 rfl (lv_room (Nat.le_of_ble_eq_true rfl)) dX12_dividesBy_90 ⟨Nat.zero_le _, Nat.zero_le _⟩) (fun z90 gn H locs hok hW => ?_)
        obtain ⟨hz90, hg, hI90, hf90, hq90⟩ := hok
        obtain ⟨S90, hS90⟩ : ∃ q, q = (zm_solves S22 45 (z1 + 1)).2 := ⟨_, rfl⟩
        rw [← hS90] at hg hI90 hf90
        skip
        try rw [← hS90] at hq90
        rw [hg] at hW
        clear hg
        have e90 : zm_solves S22 45 (z1 + 1) = (z90, S90) := Prod.ext hz90.symm hS90.symm
        clear hz90 hS90
        refine lv_istore (lv' := [(4, .int (zI z90)), (3, .int (zI z1)), (0, .ref o), (1, .int (zI a)), (2, .int (zI k))]) hX0 hB0 dX12_dividesBy_93 hl (by decide) rfl (fun ls hl => ?_)
        refine lv_iconst (v := zI 0) hX0 hB0 dX12_dividesBy_95 rfl ?_
        refine lv_istore (lv' := [(5, .int (zI 0)), (4, .int (zI z90)), (3, .int (zI z1)), (0, .ref o), (1, .int (zI a)), (2, .int (zI k))]) hX0 hB0 dX12_dividesBy_96 hl (by decide) rfl (fun ls hl => ?_)
        have hXt98 : ∀ (i98 : Int) (S98 : zS2), (zm_dividesBy_W98 k z90 ((7 : Nat)) 0 S90 = (i98, S98) ∧ mI S98 ∧ (∀ kk ii : Nat, ¬ (kk = 3 ∧ 3500 ≤ (ii : Int)) → S98 kk ii = S90 kk ii) ∧ 0 ≤ i98 ∧ i98 ≤ 5 ∧ (i98 ≤ k + 1)) → ∀ (H : Heap) (locs : List Loc) (ls : Array Slot), zW D (zT cI cJ cZ cP cS cM) L (zQ L sz) st (zMO cI cJ o S98 f) st.heap H locs → lv_has ls 7 [(5, .int (zI i98)), (4, .int (zI z90)), (3, .int (zI z1)), (0, .ref o), (1, .int (zI a)), (2, .int (zI k))] → W pg l en ({ frames := 4, cells := 0, slots := 0, locals := 99 } : Room) st mi ag bl mt cd H locs 0 0 Q (F0 mi 157 ls []) := by
          intro i98 S98 hinv H locs ls hW hl
          obtain ⟨e98, hI98, hf98, hai98, hbi98, hv98⟩ := hinv
          have hp98 := hI98.s10
          have hE : zm_dividesBy S a k = S98 := by unfold zm_dividesBy; exact zlet_e e1 (zlet_e e6 (zlet_e e16 (zlet_e e22 (zlet_e e90 (zlet_e e98 rfl)))))
          have hFr : ∀ kk ii : Nat, ¬ kk = 13 ∧ ¬ kk = 14 ∧ ¬ kk = 15 ∧ ¬ (kk = 3 ∧ 3500 ≤ (ii : Int)) → S98 kk ii = S kk ii := fun kk ii hk => (((((hf98 kk ii (by omega))).trans (hf90 kk ii (by omega))).trans (hf22 kk ii (by omega))).trans (hf16 kk ii (by omega))).trans (hf6 kk ii (by omega))
          rw [← hQ]
          exact z_vret CX hW (by rw [hE]; exact ⟨rfl, hI98, hFr, trivial⟩) dX12_dividesBy_157
        have hL98 : ∀ (fu : Nat) (i98 : Int) (S98 : zS2), (zm_dividesBy_W98 k z90 ((7 : Nat)) 0 S90 = zm_dividesBy_W98 k z90 fu i98 S98 ∧ mI S98 ∧ (∀ kk ii : Nat, ¬ (kk = 3 ∧ 3500 ≤ (ii : Int)) → S98 kk ii = S90 kk ii) ∧ 0 ≤ i98 ∧ i98 ≤ 5 ∧ (i98 ≤ k + 1)) → (6 - i98).toNat < fu → ∀ (H : Heap) (locs : List Loc) (ls : Array Slot), zW D (zT cI cJ cZ cP cS cM) L (zQ L sz) st (zMO cI cJ o S98 f) st.heap H locs → lv_has ls 7 [(5, .int (zI i98)), (4, .int (zI z90)), (3, .int (zI z1)), (0, .ref o), (1, .int (zI a)), (2, .int (zI k))] → W pg l en ({ frames := 4, cells := 0, slots := 0, locals := 99 } : Room) st mi ag bl mt cd H locs 0 0 Q (F0 mi 98 ls []) := by
          intro fu
          induction fu with
          | zero => intro i98 S98 _ hfu; exact absurd hfu (Nat.not_lt_zero _)
          | succ fu ih98 =>
            intro i98 S98 hinv hfu98 H locs ls hW hl
            obtain ⟨hz98, hI98, hf98, hai98, hbi98, hv98⟩ := hinv
            have hp98 := hI98.s10
            refine lv_iload hX0 hB0 dX12_dividesBy_98 (lv_at hl 0 rfl) ?_
            refine lv_iload_n hX0 hB0 dX12_dividesBy_100 rfl (lv_at hl 5 rfl) ?_
            refine z_icmp_gt (tgt := 157) CX dX12_dividesBy_101 (by decide) (by constructor <;> omega) (by constructor <;> omega) (fun c_101 => ?_) (fun c_101 => ?_)
            ·
              exact hXt98 i98 S98 ⟨hz98.trans (by rw [zm_dividesBy_W98]; exact zif_t c_101 rfl), hI98, fun kk ii hk => (hf98 kk ii (by omega)), by omega, by omega, by omega⟩ H locs ls hW (lv_sub hl [0, 1, 2, 3, 4, 5] rfl)
            ·
              have d_101 : ¬ k < i98 := by omega
              refine lv_iload hX0 hB0 dX12_dividesBy_104 (lv_at hl 1 rfl) ?_
              refine z_if_eq (tgt := 157) CX dX12_dividesBy_106 (by decide) (by constructor <;> omega) (fun c_106 => ?_) (fun c_106 => ?_)
              ·
                exact hXt98 i98 S98 ⟨hz98.trans (by rw [zm_dividesBy_W98]; exact zif_f d_101 (zif_t c_106 rfl)), hI98, fun kk ii hk => (hf98 kk ii (by omega)), by omega, by omega, by omega⟩ H locs ls hW (lv_sub hl [0, 1, 2, 3, 4, 5] rfl)
              ·
                refine lv_iconst (v := zI 0) hX0 hB0 dX12_dividesBy_109 rfl ?_
                refine lv_istore (lv' := [(6, .int (zI 0)), (5, .int (zI i98)), (4, .int (zI z90)), (3, .int (zI z1)), (0, .ref o), (1, .int (zI a)), (2, .int (zI k))]) hX0 hB0 dX12_dividesBy_110 hl (by decide) rfl (fun ls hl => ?_)
                have hL112 : ∀ (fu : Nat) (i112 : Int) (S112 : zS2), ((0 ≤ i112 ∧ i112 ≤ k - i98 + 1) ∧ zfor (zm_dividesBy_L112 i98) 0 S98 (i112 - 0).toNat = S112 ∧ mI S112 ∧ (∀ kk ii : Nat, ¬ (kk = 3 ∧ 3500 ≤ (ii : Int)) → S112 kk ii = S98 kk ii)) → ((k - i98) + 1 - i112).toNat < fu → ∀ (H : Heap) (locs : List Loc) (ls : Array Slot), zW D (zT cI cJ cZ cP cS cM) L (zQ L sz) st (zMO cI cJ o S112 f) st.heap H locs → lv_has ls 7 [(6, .int (zI i112)), (5, .int (zI i98)), (4, .int (zI z90)), (3, .int (zI z1)), (0, .ref o), (1, .int (zI a)), (2, .int (zI k))] → W pg l en ({ frames := 4, cells := 0, slots := 0, locals := 99 } : Room) st mi ag bl mt cd H locs 0 0 Q (F0 mi 112 ls []) := by
                  intro fu
                  induction fu with
                  | zero => intro i112 S112 _ hfu; exact absurd hfu (Nat.not_lt_zero _)
                  | succ fu ih112 =>
                    intro i112 S112 hinv hfu112 H locs ls hW hl
                    obtain ⟨⟨hlo112, hhi112⟩, hz112, hI112, hf112⟩ := hinv
                    have hp112 := hI112.s10
                    refine lv_iload hX0 hB0 dX12_dividesBy_112 (lv_at hl 1 rfl) ?_
                    refine lv_iload hX0 hB0 dX12_dividesBy_114 (lv_at hl 0 rfl) ?_
                    refine z_iadd (z := i98 + i112) CX dX12_dividesBy_116 rfl ?_
                    refine lv_iload_n hX0 hB0 dX12_dividesBy_117 rfl (lv_at hl 6 rfl) ?_
                    refine z_icmp_gt (tgt := 151) CX dX12_dividesBy_118 (by decide) (by constructor <;> omega) (by constructor <;> omega) (fun c_118 => ?_) (fun c_118 => ?_)
                    ·
                      have e112 : zfor (zm_dividesBy_L112 i98) 0 S98 ((k - i98) + 1 - 0).toNat = S112 := by rw [show ((k - i98) + 1 - 0).toNat = (i112 - 0).toNat by omega]; exact hz112
                      refine lv_iinc (v := zI (i98 + 1)) (lv' := [(5, .int (zI (i98 + 1))), (6, .int (zI i112)), (4, .int (zI z90)), (3, .int (zI z1)), (0, .ref o), (1, .int (zI a)), (2, .int (zI k))]) hX0 hB0 dX12_dividesBy_151 hl (k := 1) rfl (zI_add _ _) (by decide) rfl (fun ls hl => ?_)
                      refine lv_goto (tgt := 98) hX0 hB0 dX12_dividesBy_154 (by decide) ?_
                      exact ih98 (i98 + 1) S112 ⟨hz98.trans (by rw [zm_dividesBy_W98]; exact zif_f d_101 (zif_f c_106 (zlet_e e112 rfl))), hI112, fun kk ii hk => ((hf112 kk ii (by omega))).trans (hf98 kk ii (by omega)), by omega, by omega, by omega⟩ (by omega) H locs ls hW (lv_sub hl [0, 2, 3, 4, 5, 6] rfl)
                    ·
                      refine lv_aload_n hX0 hB0 dX12_dividesBy_121 rfl (lv_at hl 4 rfl) ?_
                      refine lv_sipush (v := zI 143) hX0 hB0 dX12_dividesBy_122 (by decide) ?_
                      refine lv_iload hX0 hB0 dX12_dividesBy_125 (lv_at hl 1 rfl) ?_
                      refine lv_iload hX0 hB0 dX12_dividesBy_127 (lv_at hl 0 rfl) ?_
                      refine lv_aload_n hX0 hB0 dX12_dividesBy_129 rfl (lv_at hl 4 rfl) ?_
                      refine z_get (Cn := RX12) (T := TX12) (N := 37) CX hW (v := .ref (o + 13)) zMO_0 rfl (fun w h => List.mem_cons_of_mem _ (List.mem_append_right _ h)) 27 (by decide) (List.mem_of_getElem? (i := 2) rfl) rfl rfl dX12_dividesBy_130 ?_
                      refine lv_iload hX0 hB0 dX12_dividesBy_133 (lv_at hl 1 rfl) ?_
                      refine lv_iload hX0 hB0 dX12_dividesBy_135 (lv_at hl 0 rfl) ?_
                      refine z_calli hW (va_runS (As := [.int (zI i98), .int (zI i112)]) (rest := [.ref (o + 13), .int (zI i112), .int (zI i98), .int (zI 143), .ref o]) CX.fix (zk_termAt l (f := zMO cI cJ o S112 f) i98 i112 (by constructor <;> omega) (by constructor <;> omega) (by omega)) (va_cwS 2 CX.fix.2.2.2.2 gX12_dividesBy_X12_termAt rfl rfl rfl (by decide +kernel) ⟨Nat.le_of_ble_eq_true rfl, Nat.le_of_ble_eq_true rfl⟩) (z_preS CX hW) rfl rfl hl.1 rfl (lv_room (Nat.le_of_ble_eq_true rfl)) dX12_dividesBy_137 ⟨Nat.zero_le _, Nat.zero_le _⟩) (fun z137 gn H locs hok hW => ?_)
                      obtain ⟨hz137, hg, hq137⟩ := hok
                      rw [hg] at hW
                      clear hg
                      have e137 : zm_termAt i98 i112 = z137 := hz137.symm
                      clear hz137
                      refine z_iald (z := S112 13 z137.toNat) CX hW zMO_13 0 rfl (by refine ⟨?_, ?_, ?_⟩ <;> omega) rfl dX12_dividesBy_140 ?_
                      have hr140 := hI112.r13 z137.toNat
                      refine z_i2l CX dX12_dividesBy_141 (by constructor <;> omega) ?_
                      refine z_callv hW (va_runV (C := RX12) (As := [.int (zI 143), .int (zI i98), .int (zI i112), .long (zL (S112 13 z137.toNat))]) (rest := []) CX.fix (zk_sets l o S112 143 i98 i112 (S112 13 z137.toNat) hI112 (by constructor <;> omega) (by constructor <;> omega) (by constructor <;> omega) (by constructor <;> omega)) (cwV 4 CX.fix.2.2.2.2 gX12_dividesBy_X12_sets rfl rfl rfl (by decide +kernel) ⟨Nat.le_of_ble_eq_true rfl, Nat.le_of_ble_eq_true rfl⟩) (z_preV CX hW (r := (RX12, TX12, 37)) zMO_0 rfl) rfl rfl hl.1 rfl (lv_room (Nat.le_of_ble_eq_true rfl)) dX12_dividesBy_142 ⟨Nat.zero_le _, Nat.zero_le _⟩) (fun gn H locs hok hW => ?_)
                      obtain ⟨hg, hI142, hf142, hq142⟩ := hok
                      obtain ⟨S142, e142⟩ : ∃ q, zm_sets S112 143 i98 i112 (S112 13 z137.toNat) = q := ⟨_, rfl⟩
                      rw [e142] at hg hI142 hf142
                      skip
                      try rw [e142] at hq142
                      rw [hg] at hW
                      clear hg
                      refine lv_iinc (v := zI (i112 + 1)) (lv' := [(6, .int (zI (i112 + 1))), (5, .int (zI i98)), (4, .int (zI z90)), (3, .int (zI z1)), (0, .ref o), (1, .int (zI a)), (2, .int (zI k))]) hX0 hB0 dX12_dividesBy_145 hl (k := 0) rfl (zI_add _ _) (by decide) rfl (fun ls hl => ?_)
                      refine lv_goto (tgt := 112) hX0 hB0 dX12_dividesBy_148 (by decide) ?_
                      exact ih112 (i112 + 1) S142 ⟨⟨by omega, by omega⟩, (zfor_s _ _ _ (by omega)).trans ((congrArg (zm_dividesBy_L112 i98 i112) hz112).trans (by unfold zm_dividesBy_L112; exact zlet_e e137 (zlet_e e142 rfl))), hI142, fun kk ii hk => ((hf142 kk ii (by omega))).trans (hf112 kk ii (by omega))⟩ (by omega) H locs ls hW (lv_sub hl [0, 1, 2, 3, 4, 5, 6] rfl)
                exact hL112 _ 0 S98 ⟨⟨by omega, by omega⟩, zfor_0 _ _ _, hI98, fun kk ii hk => rfl⟩ (Nat.lt_succ_self _) H locs ls hW (lv_sub hl [0, 1, 2, 3, 4, 5, 6] rfl)
        exact hL98 _ 0 S90 ⟨rfl, hI90, fun kk ii hk => rfl, by omega, by omega, by omega⟩ (by omega) H locs ls hW (lv_sub hl [0, 1, 2, 3, 4, 5] rfl)
      ·
        refine lv_iconst (v := zI 0) hX0 hB0 dX12_dividesBy_28 rfl ?_
        refine lv_istore (lv' := [(5, .int (zI 0)), (4, .int (zI i22)), (3, .int (zI z1)), (0, .ref o), (1, .int (zI a)), (2, .int (zI k))]) hX0 hB0 dX12_dividesBy_29 hl (by decide) rfl (fun ls hl => ?_)
        have hL31 : ∀ (fu : Nat) (i31 : Int) (S31 : zS2), ((0 ≤ i31 ∧ i31 ≤ 4 - i22 + 1) ∧ zfor (zm_dividesBy_L31 a z1 i22) 0 S22 (i31 - 0).toNat = S31 ∧ mI S31 ∧ (∀ kk ii : Nat, ¬ kk = 14 → S31 kk ii = S22 kk ii)) → ((4 - i22) + 1 - i31).toNat < fu → ∀ (H : Heap) (locs : List Loc) (ls : Array Slot), zW D (zT cI cJ cZ cP cS cM) L (zQ L sz) st (zMO cI cJ o S31 f) st.heap H locs → lv_has ls 7 [(5, .int (zI i31)), (4, .int (zI i22)), (3, .int (zI z1)), (0, .ref o), (1, .int (zI a)), (2, .int (zI k))] → W pg l en ({ frames := 4, cells := 0, slots := 0, locals := 99 } : Room) st mi ag bl mt cd H locs 0 0 Q (F0 mi 31 ls []) := by
          intro fu
          induction fu with
          | zero => intro i31 S31 _ hfu; exact absurd hfu (Nat.not_lt_zero _)
          | succ fu ih31 =>
            intro i31 S31 hinv hfu31 H locs ls hW hl
            obtain ⟨⟨hlo31, hhi31⟩, hz31, hI31, hf31⟩ := hinv
            have hp31 := hI31.s10
            refine lv_iload hX0 hB0 dX12_dividesBy_31 (lv_at hl 1 rfl) ?_
            refine lv_iload hX0 hB0 dX12_dividesBy_33 (lv_at hl 0 rfl) ?_
            refine z_iadd (z := i22 + i31) CX dX12_dividesBy_35 rfl ?_
            refine lv_iconst (v := zI 4) hX0 hB0 dX12_dividesBy_36 rfl ?_
            refine z_icmp_gt (tgt := 78) CX dX12_dividesBy_37 (by decide) (by constructor <;> omega) (by constructor <;> omega) (fun c_37 => ?_) (fun c_37 => ?_)
            ·
              have e31 : zfor (zm_dividesBy_L31 a z1 i22) 0 S22 ((4 - i22) + 1 - 0).toNat = S31 := by rw [show ((4 - i22) + 1 - 0).toNat = (i31 - 0).toNat by omega]; exact hz31
              refine lv_iinc (v := zI (i22 + 1)) (lv' := [(4, .int (zI (i22 + 1))), (5, .int (zI i31)), (3, .int (zI z1)), (0, .ref o), (1, .int (zI a)), (2, .int (zI k))]) hX0 hB0 dX12_dividesBy_78 hl (k := 1) rfl (zI_add _ _) (by decide) rfl (fun ls hl => ?_)
              refine lv_goto (tgt := 22) hX0 hB0 dX12_dividesBy_81 (by decide) ?_
              exact ih22 (i22 + 1) S31 ⟨⟨by omega, by omega⟩, (zfor_s _ _ _ (by omega)).trans ((congrArg (zm_dividesBy_L22 a z1 i22) hz22).trans (by unfold zm_dividesBy_L22; exact zlet_e e31 rfl)), hI31, fun kk ii hk => ((hf31 kk ii (by omega))).trans (hf22 kk ii (by omega))⟩ (by omega) H locs ls hW (lv_sub hl [0, 2, 3, 4, 5] rfl)
            ·
              refine lv_aload_n hX0 hB0 dX12_dividesBy_40 rfl (lv_at hl 3 rfl) ?_
              refine z_get (Cn := RX12) (T := TX12) (N := 37) CX hW (v := .ref (o + 14)) zMO_0 rfl (fun w h => List.mem_cons_of_mem _ (List.mem_append_right _ h)) 28 (by decide) (List.mem_of_getElem? (i := 1) rfl) rfl rfl dX12_dividesBy_41 ?_
              refine lv_bipush (v := zI 30) hX0 hB0 dX12_dividesBy_44 (by decide) ?_
              refine lv_iload hX0 hB0 dX12_dividesBy_46 (lv_at hl 1 rfl) ?_
              refine lv_iload hX0 hB0 dX12_dividesBy_48 (lv_at hl 0 rfl) ?_
              refine z_calli hW (va_runS (As := [.int (zI i22), .int (zI i31)]) (rest := [.int (zI 30), .ref (o + 14)]) CX.fix (zk_termAt l (f := zMO cI cJ o S31 f) i22 i31 (by constructor <;> omega) (by constructor <;> omega) (by omega)) (va_cwS 2 CX.fix.2.2.2.2 gX12_dividesBy_X12_termAt rfl rfl rfl (by decide +kernel) ⟨Nat.le_of_ble_eq_true rfl, Nat.le_of_ble_eq_true rfl⟩) (z_preS CX hW) rfl rfl hl.1 rfl (lv_room (Nat.le_of_ble_eq_true rfl)) dX12_dividesBy_50 ⟨Nat.zero_le _, Nat.zero_le _⟩) (fun z50 gn H locs hok hW => ?_)
              obtain ⟨hz50, hg, hq50⟩ := hok
              rw [hg] at hW
              clear hg
              have e50 : zm_termAt i22 i31 = z50 := hz50.symm
              clear hz50
              refine z_imul (z := 30 * z50) CX dX12_dividesBy_53 rfl ?_
              refine lv_iload_n hX0 hB0 dX12_dividesBy_54 rfl (lv_at hl 2 rfl) ?_
              refine z_iadd (z := (30 * z50) + z1) CX dX12_dividesBy_55 rfl ?_
              refine lv_aload_n hX0 hB0 dX12_dividesBy_56 rfl (lv_at hl 3 rfl) ?_
              refine lv_aload_n hX0 hB0 dX12_dividesBy_57 rfl (lv_at hl 3 rfl) ?_
              refine lv_iload_n hX0 hB0 dX12_dividesBy_58 rfl (lv_at hl 4 rfl) ?_
              refine lv_iload hX0 hB0 dX12_dividesBy_59 (lv_at hl 1 rfl) ?_
              refine lv_iload hX0 hB0 dX12_dividesBy_61 (lv_at hl 0 rfl) ?_
              refine z_calli hW (va_runV (C := RX12) (As := [.int (zI a), .int (zI i22), .int (zI i31)]) (rest := [.ref o, .int (zI ((30 * z50) + z1)), .ref (o + 14)]) CX.fix (zk_cell l o S31 a i22 i31 hI31 (by constructor <;> omega) (by constructor <;> omega) (by constructor <;> omega)) (cwV 3 CX.fix.2.2.2.2 gX12_dividesBy_X12_cell rfl rfl rfl (by decide +kernel) ⟨Nat.le_of_ble_eq_true rfl, Nat.le_of_ble_eq_true rfl⟩) (z_preV CX hW (r := (RX12, TX12, 37)) zMO_0 rfl) rfl rfl hl.1 rfl (lv_room (Nat.le_of_ble_eq_true rfl)) dX12_dividesBy_63 ⟨Nat.zero_le _, Nat.zero_le _⟩) (fun z63 gn H locs hok hW => ?_)
              obtain ⟨hz63, hg, hq63⟩ := hok
              rw [hg] at hW
              clear hg
              have e63 : zm_cell S31 a i22 i31 = z63 := hz63.symm
              clear hz63
              refine z_ineg (z := -z63) CX dX12_dividesBy_66 rfl ?_
              refine z_i2l CX dX12_dividesBy_67 (by constructor <;> omega) ?_
              refine z_calli hW (va_runV (C := RX12) (As := [.long (zL (-z63))]) (rest := [.int (zI ((30 * z50) + z1)), .ref (o + 14)]) CX.fix (zk_modulo l o S31 (-z63) hI31 (by constructor <;> omega)) (cwV 1 CX.fix.2.2.2.2 gX12_dividesBy_X12_modulo rfl rfl rfl (by decide +kernel) ⟨Nat.le_of_ble_eq_true rfl, Nat.le_of_ble_eq_true rfl⟩) (z_preV CX hW (r := (RX12, TX12, 37)) zMO_0 rfl) rfl rfl hl.1 rfl (lv_room (Nat.le_of_ble_eq_true rfl)) dX12_dividesBy_68 ⟨Nat.zero_le _, Nat.zero_le _⟩) (fun z68 gn H locs hok hW => ?_)
              obtain ⟨hz68, hg, hq68⟩ := hok
              rw [hg] at hW
              clear hg
              have e68 : zm_modulo S31 (-z63) = z68 := hz68.symm
              clear hz68
              obtain ⟨S71, e71⟩ : ∃ q, za S31 14 (((30 * z50) + z1).toNat) z68 = q := ⟨_, rfl⟩
              refine z_iast CX hW zMO_14 0 rfl (by refine ⟨?_, ?_, ?_⟩ <;> omega) (g := zMO cI cJ o S71 f) (zMO_w14.trans (by rw [← e71]; rfl)) dX12_dividesBy_71 (fun H locs hW => ?_)
              have hI71 : mI S71 := e71 ▸ hI31.w14 (by constructor <;> omega)
              refine lv_iinc (v := zI (i31 + 1)) (lv' := [(5, .int (zI (i31 + 1))), (4, .int (zI i22)), (3, .int (zI z1)), (0, .ref o), (1, .int (zI a)), (2, .int (zI k))]) hX0 hB0 dX12_dividesBy_72 hl (k := 0) rfl (zI_add _ _) (by decide) rfl (fun ls hl => ?_)
              refine lv_goto (tgt := 31) hX0 hB0 dX12_dividesBy_75 (by decide) ?_
              exact ih31 (i31 + 1) S71 ⟨⟨by omega, by omega⟩, (zfor_s _ _ _ (by omega)).trans ((congrArg (zm_dividesBy_L31 a z1 i22 i31) hz31).trans (by unfold zm_dividesBy_L31; exact zlet_e e50 (zlet_e e63 (zlet_e e68 (zlet_e e71 rfl))))), hI71, fun kk ii hk => ((show S71 kk ii = S31 kk ii from by rw [← e71]; exact za_ne (by omega))).trans (hf31 kk ii (by omega))⟩ (by omega) H locs ls hW (lv_sub hl [0, 1, 2, 3, 4, 5] rfl)
        exact hL31 _ 0 S22 ⟨⟨by omega, by omega⟩, zfor_0 _ _ _, hI22, fun kk ii hk => rfl⟩ (Nat.lt_succ_self _) H locs ls hW (lv_sub hl [0, 1, 2, 3, 4, 5] rfl)
  exact hL22 _ 0 S16 ⟨⟨by omega, by omega⟩, zfor_0 _ _ _, hI16, fun kk ii hk => rfl⟩ (Nat.lt_succ_self _) H locs ls hW (lv_sub hl [0, 1, 2, 3, 4] rfl)
def zm_normal_L51 (g : Int) (z34 : Int) (i42 : Int) : Int → zS2 → zS2 := fun i51 s51 => (fun (S51 : zS2) => zlet (zm_cell S51 g i42 i51) (fun z72 => zlet (zm_sets S51 g i42 i51 (z72 * z34)) (fun S80 => S80))) s51
def zm_normal_L42 (g : Int) (z2 : Int) (z34 : Int) : Int → zS2 → zS2 := fun i42 s42 => (fun (S42 : zS2) => zlet (zfor (zm_normal_L51 g z34 i42) 0 S42 ((z2 - i42) + 1 - 0).toNat) (fun S51 => S51)) s42
def zm_normal_W8 (S : zS2) (g : Int) (z2 : Int) : Nat → Int → (zS2) ⊕ Int
  | 0, i8 => .inr i8
  | fu8 + 1, i8 => (if i8 < 0 then .inr i8 else zlet (zm_cell S g i8 (z2 - i8)) (fun z18 => (if z18 = 0 then zm_normal_W8 S g z2 fu8 (i8 + (-1)) else zlet (zm_inverse S z18) (fun z34 => zlet (zfor (zm_normal_L42 g z2 z34) 0 S (z2 + 1 - 0).toNat) (fun S42 => .inl (S42))))))
def zm_normal (S : zS2) (g : Int) : zS2 := zlet (zm_degreeOf S g) (fun z2 => zsum (zm_normal_W8 S g z2 ((6 : Nat)) z2) (fun r8 => r8) (fun i8 => S))
set_option maxRecDepth 100000 in
set_option maxHeartbeats 4000000 in
theorem zk_normal (l : Launch) {D : va_G} {cI cJ cZ cP cS cM : ClassId} {L : List Nat} {sz : Nat} {f : Nat → va_E} (o : Nat) (S : zS2) (g : Int) (hI : mI S) (hg : 0 ≤ g ∧ g ≤ 238) : zMv l yX12_normal wsX12_normal 3 70 D (zT cI cJ cZ cP cS cM) L sz (zMO cI cJ o S f) [.ref o, .int (zI g)] (fun gv => gv = zMO cI cJ o (zm_normal S g) f ∧ mI (zm_normal S g) ∧ (∀ kk ii : Nat, ¬ (kk = 3 ∧ 25 * g ≤ (ii : Int)) → (zm_normal S g) kk ii = S kk ii) ∧ True) := by
  refine zWalk.met (nL := 8) (ret := none) (cc := cX12_normal) (by decide) rfl (Nat.le_of_ble_eq_true rfl) ?_
  intro pg en st mi ag bl mt cd ls CX hW hl
  have CX : zC pg st mi ag mt cd cX12_normal 8 none RX12 wsX12_normal := CX
  generalize hQ : MQ bl _ ag st 0 0 _ = Q
  have hX0 := CX.1
  have hB0 := CX.2.1
  have hl : lv_has ls 8 [(0, .ref o), (1, .int (zI g))] := hl
  obtain ⟨H, eH⟩ : ∃ H, H = st.heap := ⟨_, rfl⟩
  obtain ⟨locs, eL⟩ : ∃ L : List Loc, L = [] := ⟨_, rfl⟩
  have hW : zW D (zT cI cJ cZ cP cS cM) L (zQ L sz) st (zMO cI cJ o S f) st.heap H locs := by rw [eH, eL]; exact hW
  suffices hgo : W pg l en ({ frames := 3, cells := 0, slots := 0, locals := 70 } : Room) st mi ag bl mt cd H locs 0 0 Q (F0 mi 0 ls []) by rw [eH, eL] at hgo; exact hgo
  clear eH eL
  have hpb := hI.s10
  refine lv_aload_n hX0 hB0 dX12_normal_0 rfl (lv_at hl 0 rfl) ?_
  refine lv_iload_n hX0 hB0 dX12_normal_1 rfl (lv_at hl 1 rfl) ?_
  refine z_calli hW (va_runV (C := RX12) (As := [.int (zI g)]) (rest := []) CX.fix (zk_degreeOf l o S g hI (by constructor <;> omega)) (cwV 1 CX.fix.2.2.2.2 gX12_normal_X12_degreeOf rfl rfl rfl (by decide +kernel) ⟨Nat.le_of_ble_eq_true rfl, Nat.le_of_ble_eq_true rfl⟩) (z_preV CX hW (r := (RX12, TX12, 37)) zMO_0 rfl) rfl rfl hl.1 rfl (lv_room (Nat.le_of_ble_eq_true rfl)) dX12_normal_2 ⟨Nat.zero_le _, Nat.zero_le _⟩) (fun z2 gn H locs hok hW => ?_)
  obtain ⟨hz2, hg, hq2⟩ := hok
  rw [hg] at hW
  clear hg
  have e2 : zm_degreeOf S g = z2 := hz2.symm
  clear hz2
  refine lv_istore_n (lv' := [(2, .int (zI z2)), (0, .ref o), (1, .int (zI g))]) hX0 hB0 dX12_normal_5 rfl hl (by decide) rfl (fun ls hl => ?_)
  refine lv_iload_n hX0 hB0 dX12_normal_6 rfl (lv_at hl 0 rfl) ?_
  refine lv_istore_n (lv' := [(3, .int (zI z2)), (2, .int (zI z2)), (0, .ref o), (1, .int (zI g))]) hX0 hB0 dX12_normal_7 rfl hl (by decide) rfl (fun ls hl => ?_)
  have hXt8 : ∀ (i8 : Int), (zm_normal_W8 S g z2 ((6 : Nat)) z2 = .inr i8 ∧ -1 ≤ i8 ∧ i8 ≤ 4 ∧ (i8 ≤ z2)) → ∀ (H : Heap) (locs : List Loc) (ls : Array Slot), zW D (zT cI cJ cZ cP cS cM) L (zQ L sz) st (zMO cI cJ o S f) st.heap H locs → lv_has ls 8 [(3, .int (zI i8)), (2, .int (zI z2)), (0, .ref o), (1, .int (zI g))] → W pg l en ({ frames := 3, cells := 0, slots := 0, locals := 70 } : Room) st mi ag bl mt cd H locs 0 0 Q (F0 mi 102 ls []) := by
    intro i8 hinv H locs ls hW hl
    obtain ⟨e8, hai8, hbi8, hv8⟩ := hinv
    have hE : zm_normal S g = S := by unfold zm_normal; exact zlet_e e2 (zsum_r e8 rfl)
    have hFr : ∀ kk ii : Nat, ¬ (kk = 3 ∧ 25 * g ≤ (ii : Int)) → S kk ii = S kk ii := fun kk ii hk => rfl
    rw [← hQ]
    exact z_vret CX hW (by rw [hE]; exact ⟨rfl, hI, hFr, trivial⟩) dX12_normal_102
  have hL8 : ∀ (fu : Nat) (i8 : Int), (zm_normal_W8 S g z2 ((6 : Nat)) z2 = zm_normal_W8 S g z2 fu i8 ∧ -1 ≤ i8 ∧ i8 ≤ 4 ∧ (i8 ≤ z2)) → (i8 + 1).toNat < fu → ∀ (H : Heap) (locs : List Loc) (ls : Array Slot), zW D (zT cI cJ cZ cP cS cM) L (zQ L sz) st (zMO cI cJ o S f) st.heap H locs → lv_has ls 8 [(3, .int (zI i8)), (2, .int (zI z2)), (0, .ref o), (1, .int (zI g))] → W pg l en ({ frames := 3, cells := 0, slots := 0, locals := 70 } : Room) st mi ag bl mt cd H locs 0 0 Q (F0 mi 8 ls []) := by
    intro fu
    induction fu with
    | zero => intro i8 _ hfu; exact absurd hfu (Nat.not_lt_zero _)
    | succ fu ih8 =>
      intro i8 hinv hfu8 H locs ls hW hl
      obtain ⟨hz8, hai8, hbi8, hv8⟩ := hinv
      refine lv_iload_n hX0 hB0 dX12_normal_8 rfl (lv_at hl 0 rfl) ?_
      refine z_if_lt (tgt := 102) CX dX12_normal_9 (by decide) (by constructor <;> omega) (fun c_9 => ?_) (fun c_9 => ?_)
      ·
        exact hXt8 i8 ⟨hz8.trans (by rw [zm_normal_W8]; exact zif_t c_9 rfl), by omega, by omega, by omega⟩ H locs ls hW (lv_sub hl [0, 1, 2, 3] rfl)
      ·
        have d_9 : ¬ i8 < 0 := by omega
        refine lv_aload_n hX0 hB0 dX12_normal_12 rfl (lv_at hl 2 rfl) ?_
        refine lv_iload_n hX0 hB0 dX12_normal_13 rfl (lv_at hl 3 rfl) ?_
        refine lv_iload_n hX0 hB0 dX12_normal_14 rfl (lv_at hl 0 rfl) ?_
        refine lv_iload_n hX0 hB0 dX12_normal_15 rfl (lv_at hl 1 rfl) ?_
        refine lv_iload_n hX0 hB0 dX12_normal_16 rfl (lv_at hl 0 rfl) ?_
        refine z_isub (z := z2 - i8) CX dX12_normal_17 rfl ?_
        refine z_calli hW (va_runV (C := RX12) (As := [.int (zI g), .int (zI i8), .int (zI (z2 - i8))]) (rest := []) CX.fix (zk_cell l o S g i8 (z2 - i8) hI (by constructor <;> omega) (by constructor <;> omega) (by constructor <;> omega)) (cwV 3 CX.fix.2.2.2.2 gX12_normal_X12_cell rfl rfl rfl (by decide +kernel) ⟨Nat.le_of_ble_eq_true rfl, Nat.le_of_ble_eq_true rfl⟩) (z_preV CX hW (r := (RX12, TX12, 37)) zMO_0 rfl) rfl rfl hl.1 rfl (lv_room (Nat.le_of_ble_eq_true rfl)) dX12_normal_18 ⟨Nat.zero_le _, Nat.zero_le _⟩) (fun z18 gn H locs hok hW => ?_)
        obtain ⟨hz18, hg, hq18⟩ := hok
        rw [hg] at hW
        clear hg
        have e18 : zm_cell S g i8 (z2 - i8) = z18 := hz18.symm
        clear hz18
        refine lv_istore (lv' := [(4, .int (zI z18)), (3, .int (zI i8)), (2, .int (zI z2)), (0, .ref o), (1, .int (zI g))]) hX0 hB0 dX12_normal_21 hl (by decide) rfl (fun ls hl => ?_)
        refine lv_iload hX0 hB0 dX12_normal_23 (lv_at hl 0 rfl) ?_
        refine z_if_ne (tgt := 31) CX dX12_normal_25 (by decide) (by constructor <;> omega) (fun c_25 => ?_) (fun c_25 => ?_)
        ·
          refine lv_aload_n hX0 hB0 dX12_normal_31 rfl (lv_at hl 3 rfl) ?_
          refine lv_iload hX0 hB0 dX12_normal_32 (lv_at hl 0 rfl) ?_
          refine z_calli hW (va_runV (C := RX12) (As := [.int (zI z18)]) (rest := []) CX.fix (zk_inverse l o S z18 hI (by constructor <;> omega)) (cwV 1 CX.fix.2.2.2.2 gX12_normal_X12_inverse rfl rfl rfl (by decide +kernel) ⟨Nat.le_of_ble_eq_true rfl, Nat.le_of_ble_eq_true rfl⟩) (z_preV CX hW (r := (RX12, TX12, 37)) zMO_0 rfl) rfl rfl hl.1 rfl (lv_room (Nat.le_of_ble_eq_true rfl)) dX12_normal_34 ⟨Nat.zero_le _, Nat.zero_le _⟩) (fun z34 gn H locs hok hW => ?_)
          obtain ⟨hz34, hg, hq34⟩ := hok
          rw [hg] at hW
          clear hg
          have e34 : zm_inverse S z18 = z34 := hz34.symm
          clear hz34
          refine lv_istore (lv' := [(5, .int (zI z34)), (4, .int (zI z18)), (3, .int (zI i8)), (2, .int (zI z2)), (0, .ref o), (1, .int (zI g))]) hX0 hB0 dX12_normal_37 hl (by decide) rfl (fun ls hl => ?_)
          refine lv_iconst (v := zI 0) hX0 hB0 dX12_normal_39 rfl ?_
          refine lv_istore (lv' := [(6, .int (zI 0)), (5, .int (zI z34)), (4, .int (zI z18)), (3, .int (zI i8)), (2, .int (zI z2)), (0, .ref o), (1, .int (zI g))]) hX0 hB0 dX12_normal_40 hl (by decide) rfl (fun ls hl => ?_)
          have hL42 : ∀ (fu : Nat) (i42 : Int) (S42 : zS2), ((0 ≤ i42 ∧ i42 ≤ z2 + 1) ∧ zfor (zm_normal_L42 g z2 z34) 0 S (i42 - 0).toNat = S42 ∧ mI S42 ∧ (∀ kk ii : Nat, ¬ (kk = 3 ∧ 25 * g ≤ (ii : Int)) → S42 kk ii = S kk ii)) → (z2 + 1 - i42).toNat < fu → ∀ (H : Heap) (locs : List Loc) (ls : Array Slot), zW D (zT cI cJ cZ cP cS cM) L (zQ L sz) st (zMO cI cJ o S42 f) st.heap H locs → lv_has ls 8 [(6, .int (zI i42)), (5, .int (zI z34)), (4, .int (zI z18)), (3, .int (zI i8)), (2, .int (zI z2)), (0, .ref o), (1, .int (zI g))] → W pg l en ({ frames := 3, cells := 0, slots := 0, locals := 70 } : Room) st mi ag bl mt cd H locs 0 0 Q (F0 mi 42 ls []) := by
            intro fu
            induction fu with
            | zero => intro i42 S42 _ hfu; exact absurd hfu (Nat.not_lt_zero _)
            | succ fu ih42 =>
              intro i42 S42 hinv hfu42 H locs ls hW hl
              obtain ⟨⟨hlo42, hhi42⟩, hz42, hI42, hf42⟩ := hinv
              have hp42 := hI42.s10
              refine lv_iload hX0 hB0 dX12_normal_42 (lv_at hl 0 rfl) ?_
              refine lv_iload_n hX0 hB0 dX12_normal_44 rfl (lv_at hl 4 rfl) ?_
              refine z_icmp_gt (tgt := 95) CX dX12_normal_45 (by decide) (by constructor <;> omega) (by constructor <;> omega) (fun c_45 => ?_) (fun c_45 => ?_)
              ·
                have e42 : zfor (zm_normal_L42 g z2 z34) 0 S (z2 + 1 - 0).toNat = S42 := by rw [show (z2 + 1 - 0).toNat = (i42 - 0).toNat by omega]; exact hz42
                have hE : zm_normal S g = S42 := by unfold zm_normal; exact zlet_e e2 (zsum_l (hz8.trans (by rw [zm_normal_W8]; exact zif_f d_9 (zlet_e e18 (zif_f c_25 (zlet_e e34 (zlet_e e42 rfl)))))) rfl)
                have hFr : ∀ kk ii : Nat, ¬ (kk = 3 ∧ 25 * g ≤ (ii : Int)) → S42 kk ii = S kk ii := fun kk ii hk => (hf42 kk ii (by omega))
                rw [← hQ]
                exact z_vret CX hW (by rw [hE]; exact ⟨rfl, hI42, hFr, trivial⟩) dX12_normal_95
              ·
                refine lv_iconst (v := zI 0) hX0 hB0 dX12_normal_48 rfl ?_
                refine lv_istore (lv' := [(7, .int (zI 0)), (6, .int (zI i42)), (5, .int (zI z34)), (4, .int (zI z18)), (3, .int (zI i8)), (2, .int (zI z2)), (0, .ref o), (1, .int (zI g))]) hX0 hB0 dX12_normal_49 hl (by decide) rfl (fun ls hl => ?_)
                have hL51 : ∀ (fu : Nat) (i51 : Int) (S51 : zS2), ((0 ≤ i51 ∧ i51 ≤ z2 - i42 + 1) ∧ zfor (zm_normal_L51 g z34 i42) 0 S42 (i51 - 0).toNat = S51 ∧ mI S51 ∧ (∀ kk ii : Nat, ¬ (kk = 3 ∧ 25 * g ≤ (ii : Int)) → S51 kk ii = S42 kk ii)) → ((z2 - i42) + 1 - i51).toNat < fu → ∀ (H : Heap) (locs : List Loc) (ls : Array Slot), zW D (zT cI cJ cZ cP cS cM) L (zQ L sz) st (zMO cI cJ o S51 f) st.heap H locs → lv_has ls 8 [(7, .int (zI i51)), (6, .int (zI i42)), (5, .int (zI z34)), (4, .int (zI z18)), (3, .int (zI i8)), (2, .int (zI z2)), (0, .ref o), (1, .int (zI g))] → W pg l en ({ frames := 3, cells := 0, slots := 0, locals := 70 } : Room) st mi ag bl mt cd H locs 0 0 Q (F0 mi 51 ls []) := by
                  intro fu
                  induction fu with
                  | zero => intro i51 S51 _ hfu; exact absurd hfu (Nat.not_lt_zero _)
                  | succ fu ih51 =>
                    intro i51 S51 hinv hfu51 H locs ls hW hl
                    obtain ⟨⟨hlo51, hhi51⟩, hz51, hI51, hf51⟩ := hinv
                    have hp51 := hI51.s10
                    refine lv_iload hX0 hB0 dX12_normal_51 (lv_at hl 1 rfl) ?_
                    refine lv_iload hX0 hB0 dX12_normal_53 (lv_at hl 0 rfl) ?_
                    refine z_iadd (z := i42 + i51) CX dX12_normal_55 rfl ?_
                    refine lv_iload_n hX0 hB0 dX12_normal_56 rfl (lv_at hl 5 rfl) ?_
                    refine z_icmp_gt (tgt := 89) CX dX12_normal_57 (by decide) (by constructor <;> omega) (by constructor <;> omega) (fun c_57 => ?_) (fun c_57 => ?_)
                    ·
                      have e51 : zfor (zm_normal_L51 g z34 i42) 0 S42 ((z2 - i42) + 1 - 0).toNat = S51 := by rw [show ((z2 - i42) + 1 - 0).toNat = (i51 - 0).toNat by omega]; exact hz51
                      refine lv_iinc (v := zI (i42 + 1)) (lv' := [(6, .int (zI (i42 + 1))), (7, .int (zI i51)), (5, .int (zI z34)), (4, .int (zI z18)), (3, .int (zI i8)), (2, .int (zI z2)), (0, .ref o), (1, .int (zI g))]) hX0 hB0 dX12_normal_89 hl (k := 1) rfl (zI_add _ _) (by decide) rfl (fun ls hl => ?_)
                      refine lv_goto (tgt := 42) hX0 hB0 dX12_normal_92 (by decide) ?_
                      exact ih42 (i42 + 1) S51 ⟨⟨by omega, by omega⟩, (zfor_s _ _ _ (by omega)).trans ((congrArg (zm_normal_L42 g z2 z34 i42) hz42).trans (by unfold zm_normal_L42; exact zlet_e e51 rfl)), hI51, fun kk ii hk => ((hf51 kk ii (by omega))).trans (hf42 kk ii (by omega))⟩ (by omega) H locs ls hW (lv_sub hl [0, 2, 3, 4, 5, 6, 7] rfl)
                    ·
                      refine lv_aload_n hX0 hB0 dX12_normal_60 rfl (lv_at hl 6 rfl) ?_
                      refine lv_iload_n hX0 hB0 dX12_normal_61 rfl (lv_at hl 7 rfl) ?_
                      refine lv_iload hX0 hB0 dX12_normal_62 (lv_at hl 1 rfl) ?_
                      refine lv_iload hX0 hB0 dX12_normal_64 (lv_at hl 0 rfl) ?_
                      refine lv_aload_n hX0 hB0 dX12_normal_66 rfl (lv_at hl 6 rfl) ?_
                      refine lv_iload_n hX0 hB0 dX12_normal_67 rfl (lv_at hl 7 rfl) ?_
                      refine lv_iload hX0 hB0 dX12_normal_68 (lv_at hl 1 rfl) ?_
                      refine lv_iload hX0 hB0 dX12_normal_70 (lv_at hl 0 rfl) ?_
                      refine z_calli hW (va_runV (C := RX12) (As := [.int (zI g), .int (zI i42), .int (zI i51)]) (rest := [.int (zI i51), .int (zI i42), .int (zI g), .ref o]) CX.fix (zk_cell l o S51 g i42 i51 hI51 (by constructor <;> omega) (by constructor <;> omega) (by constructor <;> omega)) (cwV 3 CX.fix.2.2.2.2 gX12_normal_X12_cell rfl rfl rfl (by decide +kernel) ⟨Nat.le_of_ble_eq_true rfl, Nat.le_of_ble_eq_true rfl⟩) (z_preV CX hW (r := (RX12, TX12, 37)) zMO_0 rfl) rfl rfl hl.1 rfl (lv_room (Nat.le_of_ble_eq_true rfl)) dX12_normal_72 ⟨Nat.zero_le _, Nat.zero_le _⟩) (fun z72 gn H locs hok hW => ?_)
                      obtain ⟨hz72, hg, hq72⟩ := hok
                      rw [hg] at hW
                      clear hg
                      have e72 : zm_cell S51 g i42 i51 = z72 := hz72.symm
                      clear hz72
                      refine z_i2l CX dX12_normal_75 (by constructor <;> omega) ?_
                      refine lv_iload hX0 hB0 dX12_normal_76 (lv_at hl 2 rfl) ?_
                      refine z_i2l CX dX12_normal_78 (by constructor <;> omega) ?_
                      refine z_lmul (z := z72 * z34) CX dX12_normal_79 rfl ?_
                      have hm79 := zbox_mul0 (a := z72) (b := z34) (A := 30) (B := 30) (by constructor <;> omega) (by constructor <;> omega) (C := 900) (by decide)
                      refine z_callv hW (va_runV (C := RX12) (As := [.int (zI g), .int (zI i42), .int (zI i51), .long (zL (z72 * z34))]) (rest := []) CX.fix (zk_sets l o S51 g i42 i51 (z72 * z34) hI51 (by constructor <;> omega) (by constructor <;> omega) (by constructor <;> omega) (by constructor <;> omega)) (cwV 4 CX.fix.2.2.2.2 gX12_normal_X12_sets rfl rfl rfl (by decide +kernel) ⟨Nat.le_of_ble_eq_true rfl, Nat.le_of_ble_eq_true rfl⟩) (z_preV CX hW (r := (RX12, TX12, 37)) zMO_0 rfl) rfl rfl hl.1 rfl (lv_room (Nat.le_of_ble_eq_true rfl)) dX12_normal_80 ⟨Nat.zero_le _, Nat.zero_le _⟩) (fun gn H locs hok hW => ?_)
                      obtain ⟨hg, hI80, hf80, hq80⟩ := hok
                      obtain ⟨S80, e80⟩ : ∃ q, zm_sets S51 g i42 i51 (z72 * z34) = q := ⟨_, rfl⟩
                      rw [e80] at hg hI80 hf80
                      skip
                      try rw [e80] at hq80
                      rw [hg] at hW
                      clear hg
                      refine lv_iinc (v := zI (i51 + 1)) (lv' := [(7, .int (zI (i51 + 1))), (6, .int (zI i42)), (5, .int (zI z34)), (4, .int (zI z18)), (3, .int (zI i8)), (2, .int (zI z2)), (0, .ref o), (1, .int (zI g))]) hX0 hB0 dX12_normal_83 hl (k := 0) rfl (zI_add _ _) (by decide) rfl (fun ls hl => ?_)
                      refine lv_goto (tgt := 51) hX0 hB0 dX12_normal_86 (by decide) ?_
                      exact ih51 (i51 + 1) S80 ⟨⟨by omega, by omega⟩, (zfor_s _ _ _ (by omega)).trans ((congrArg (zm_normal_L51 g z34 i42 i51) hz51).trans (by unfold zm_normal_L51; exact zlet_e e72 (zlet_e e80 rfl))), hI80, fun kk ii hk => ((hf80 kk ii (by omega))).trans (hf51 kk ii (by omega))⟩ (by omega) H locs ls hW (lv_sub hl [0, 1, 2, 3, 4, 5, 6, 7] rfl)
                exact hL51 _ 0 S42 ⟨⟨by omega, by omega⟩, zfor_0 _ _ _, hI42, fun kk ii hk => rfl⟩ (Nat.lt_succ_self _) H locs ls hW (lv_sub hl [0, 1, 2, 3, 4, 5, 6, 7] rfl)
          exact hL42 _ 0 S ⟨⟨by omega, by omega⟩, zfor_0 _ _ _, hI, fun kk ii hk => rfl⟩ (Nat.lt_succ_self _) H locs ls hW (lv_sub hl [0, 1, 2, 3, 4, 5, 6] rfl)
        ·
          refine lv_goto (tgt := 96) hX0 hB0 dX12_normal_28 (by decide) ?_
          refine lv_iinc (v := zI (i8 + (-1))) (lv' := [(3, .int (zI (i8 + (-1)))), (4, .int (zI z18)), (2, .int (zI z2)), (0, .ref o), (1, .int (zI g))]) hX0 hB0 dX12_normal_96 hl (k := 1) rfl (zI_add _ _) (by decide) rfl (fun ls hl => ?_)
          refine lv_goto (tgt := 8) hX0 hB0 dX12_normal_99 (by decide) ?_
          exact ih8 (i8 + (-1)) ⟨hz8.trans (by rw [zm_normal_W8]; exact zif_f d_9 (zlet_e e18 (zif_t c_25 rfl))), by omega, by omega, by omega⟩ (by omega) H locs ls hW (lv_sub hl [0, 2, 3, 4] rfl)
  exact hL8 _ z2 ⟨rfl, by omega, by omega, by omega⟩ (by omega) H locs ls hW (lv_sub hl [0, 1, 2, 3] rfl)
def zm_laysCommon_J16 (z2 : Int) (z8 : Int) : Int := (if z8 ≤ z2 then z8 else z2)
def zm_laysCommon_W30 (a : Int) (b : Int) (z2 : Int) (z8 : Int) : Nat → Int → Int → zS2 → Int × Int × zS2
  | 0, k30, q30, S30 => (k30, q30, S30)
  | fu30 + 1, k30, q30, S30 => (if k30 ≤ 0 then (k30, q30, S30) else (if q30 = 0 then zlet (zm_emptiesEquations S30) (fun S41 => zlet (zm_addsUnknowns S41 0 (z8 - k30) a 1) (fun S53 => zlet (zm_manyTerms (z8 - k30)) (fun z62 => zlet (zm_addsUnknowns S53 z62 (z2 - k30) b (-1)) (fun S73 => zlet (zm_manyTerms (z8 - k30)) (fun z84 => zlet (zm_manyTerms (z2 - k30)) (fun z91 => zlet (zm_solves S73 45 (z84 + z91)) (fun q95 => (fun (z95 : Int) (S95 : zS2) => (if z95 = 0 then zm_laysCommon_W30 a b z2 z8 fu30 (k30 + (-1)) z95 S95 else zm_laysCommon_W30 a b z2 z8 fu30 k30 z95 S95)) q95.1 q95.2))))))) else (k30, q30, S30)))
def zm_laysCommon_L166 (z146 : Int) (i154 : Int) : Int → zS2 → zS2 := fun i166 s166 => (fun (S166 : zS2) => zlet (zm_termAt i154 i166) (fun z196 => zlet (zm_sets S166 142 i154 i166 (S166 13 ((z146 + z196).toNat))) (fun S202 => S202))) s166
def zm_laysCommon_L154 (z2 : Int) (k30 : Int) (z146 : Int) : Int → zS2 → zS2 := fun i154 s154 => (fun (S154 : zS2) => zlet (zfor (zm_laysCommon_L166 z146 i154) 0 S154 ((z2 - k30 - i154) + 1 - 0).toNat) (fun S166 => S166)) s154
def zm_laysCommon (S : zS2) (a : Int) (b : Int) : zS2 := zlet (zm_degreeOf S a) (fun z2 => zlet (zm_degreeOf S b) (fun z8 => zlet (zm_laysCommon_J16 z2 z8) (fun k16j => zlet (zm_laysCommon_W30 a b z2 z8 ((8 : Nat)) k16j 0 S) (fun q30 => (fun (k30 : Int) (q30 : Int) (S30 : zS2) => zlet (zm_empties S30 143) (fun S115 => (if k30 = 0 then zlet (zm_sets S115 143 0 0 1) (fun S130 => S130) else zlet (zm_empties S115 142) (fun S138 => zlet (zm_manyTerms (z8 - k30)) (fun z146 => zlet (zfor (zm_laysCommon_L154 z2 k30 z146) 0 S138 ((z2 - k30) + 1 - 0).toNat) (fun S154 => zlet (zm_dividesBy S154 a k30) (fun S221 => zlet (zm_normal S221 143) (fun S228 => S228)))))))) q30.1 q30.2.1 q30.2.2))))
set_option maxRecDepth 100000 in
set_option maxHeartbeats 4000000 in
theorem zk_laysCommon (l : Launch) {D : va_G} {cI cJ cZ cP cS cM : ClassId} {L : List Nat} {sz : Nat} {f : Nat → va_E} (o : Nat) (S : zS2) (a : Int) (b : Int) (hI : mI S) (ha : 0 ≤ a ∧ a ≤ 238) (hb : 0 ≤ b ∧ b ≤ 238) (hdg : 0 ≤ zm_degreeOf S a ∧ 0 ≤ zm_degreeOf S b) : zMv l yX12_laysCommon wsX12_laysCommon 5 125 D (zT cI cJ cZ cP cS cM) L sz (zMO cI cJ o S f) [.ref o, .int (zI a), .int (zI b)] (fun gv => gv = zMO cI cJ o (zm_laysCommon S a b) f ∧ mI (zm_laysCommon S a b) ∧ (∀ kk ii : Nat, ¬ kk = 13 ∧ ¬ kk = 14 ∧ ¬ kk = 15 ∧ ¬ (kk = 3 ∧ 3500 ≤ (ii : Int)) → (zm_laysCommon S a b) kk ii = S kk ii) ∧ True) := by
  refine zWalk.met (nL := 10) (ret := none) (cc := cX12_laysCommon) (by decide) rfl (Nat.le_of_ble_eq_true rfl) ?_
  intro pg en st mi ag bl mt cd ls CX hW hl
  have CX : zC pg st mi ag mt cd cX12_laysCommon 10 none RX12 wsX12_laysCommon := CX
  generalize hQ : MQ bl _ ag st 0 0 _ = Q
  have hX0 := CX.1
  have hB0 := CX.2.1
  have hl : lv_has ls 10 [(0, .ref o), (1, .int (zI a)), (2, .int (zI b))] := hl
  obtain ⟨H, eH⟩ : ∃ H, H = st.heap := ⟨_, rfl⟩
  obtain ⟨locs, eL⟩ : ∃ L : List Loc, L = [] := ⟨_, rfl⟩
  have hW : zW D (zT cI cJ cZ cP cS cM) L (zQ L sz) st (zMO cI cJ o S f) st.heap H locs := by rw [eH, eL]; exact hW
  suffices hgo : W pg l en ({ frames := 5, cells := 0, slots := 0, locals := 125 } : Room) st mi ag bl mt cd H locs 0 0 Q (F0 mi 0 ls []) by rw [eH, eL] at hgo; exact hgo
  clear eH eL
  have hpb := hI.s10
  refine lv_aload_n hX0 hB0 dX12_laysCommon_0 rfl (lv_at hl 0 rfl) ?_
  refine lv_iload_n hX0 hB0 dX12_laysCommon_1 rfl (lv_at hl 1 rfl) ?_
  refine z_calli hW (va_runV (C := RX12) (As := [.int (zI a)]) (rest := []) CX.fix (zk_degreeOf l o S a hI (by constructor <;> omega)) (cwV 1 CX.fix.2.2.2.2 gX12_laysCommon_X12_degreeOf rfl rfl rfl (by decide +kernel) ⟨Nat.le_of_ble_eq_true rfl, Nat.le_of_ble_eq_true rfl⟩) (z_preV CX hW (r := (RX12, TX12, 37)) zMO_0 rfl) rfl rfl hl.1 rfl (lv_room (Nat.le_of_ble_eq_true rfl)) dX12_laysCommon_2 ⟨Nat.zero_le _, Nat.zero_le _⟩) (fun z2 gn H locs hok hW => ?_)
  obtain ⟨hz2, hg, hq2⟩ := hok
  rw [hg] at hW
  clear hg
  have e2 : zm_degreeOf S a = z2 := hz2.symm
  clear hz2
  refine lv_istore_n (lv' := [(3, .int (zI z2)), (0, .ref o), (1, .int (zI a)), (2, .int (zI b))]) hX0 hB0 dX12_laysCommon_5 rfl hl (by decide) rfl (fun ls hl => ?_)
  refine lv_aload_n hX0 hB0 dX12_laysCommon_6 rfl (lv_at hl 1 rfl) ?_
  refine lv_iload_n hX0 hB0 dX12_laysCommon_7 rfl (lv_at hl 3 rfl) ?_
  refine z_calli hW (va_runV (C := RX12) (As := [.int (zI b)]) (rest := []) CX.fix (zk_degreeOf l o S b hI (by constructor <;> omega)) (cwV 1 CX.fix.2.2.2.2 gX12_laysCommon_X12_degreeOf rfl rfl rfl (by decide +kernel) ⟨Nat.le_of_ble_eq_true rfl, Nat.le_of_ble_eq_true rfl⟩) (z_preV CX hW (r := (RX12, TX12, 37)) zMO_0 rfl) rfl rfl hl.1 rfl (lv_room (Nat.le_of_ble_eq_true rfl)) dX12_laysCommon_8 ⟨Nat.zero_le _, Nat.zero_le _⟩) (fun z8 gn H locs hok hW => ?_)
  obtain ⟨hz8, hg, hq8⟩ := hok
  rw [hg] at hW
  clear hg
  have e8 : zm_degreeOf S b = z8 := hz8.symm
  clear hz8
  rw [e2, e8] at hdg
  refine lv_istore (lv' := [(4, .int (zI z8)), (3, .int (zI z2)), (0, .ref o), (1, .int (zI a)), (2, .int (zI b))]) hX0 hB0 dX12_laysCommon_11 hl (by decide) rfl (fun ls hl => ?_)
  refine lv_iload_n hX0 hB0 dX12_laysCommon_13 rfl (lv_at hl 1 rfl) ?_
  refine lv_iload hX0 hB0 dX12_laysCommon_14 (lv_at hl 0 rfl) ?_
  have hJ16 : ∀ (k16j : Int), (zm_laysCommon_J16 z2 z8 = k16j ∧ 0 ≤ k16j ∧ k16j ≤ 4 ∧ (k16j ≤ z2 ∧ k16j ≤ z8)) → ∀ (H : Heap) (locs : List Loc) (ls : Array Slot), zW D (zT cI cJ cZ cP cS cM) L (zQ L sz) st (zMO cI cJ o S f) st.heap H locs → lv_has ls 10 [(4, .int (zI z8)), (3, .int (zI z2)), (0, .ref o), (1, .int (zI a)), (2, .int (zI b))] → W pg l en ({ frames := 5, cells := 0, slots := 0, locals := 125 } : Room) st mi ag bl mt cd H locs 0 0 Q (F0 mi 25 ls [.int (zI k16j)]) := by
    intro k16j hinv H locs ls hW hl
    obtain ⟨e16j, hak16j, hbk16j, hv16j⟩ := hinv
    refine lv_istore (lv' := [(5, .int (zI k16j)), (4, .int (zI z8)), (3, .int (zI z2)), (0, .ref o), (1, .int (zI a)), (2, .int (zI b))]) hX0 hB0 dX12_laysCommon_25 hl (by decide) rfl (fun ls hl => ?_)
    refine lv_iconst (v := zI 0) hX0 hB0 dX12_laysCommon_27 rfl ?_
    refine lv_istore (lv' := [(6, .int (zI 0)), (5, .int (zI k16j)), (4, .int (zI z8)), (3, .int (zI z2)), (0, .ref o), (1, .int (zI a)), (2, .int (zI b))]) hX0 hB0 dX12_laysCommon_28 hl (by decide) rfl (fun ls hl => ?_)
    have hXt30 : ∀ (k30 : Int) (q30 : Int) (S30 : zS2), (zm_laysCommon_W30 a b z2 z8 ((8 : Nat)) k16j 0 S = (k30, q30, S30) ∧ mI S30 ∧ (∀ kk ii : Nat, ¬ kk = 13 ∧ ¬ kk = 14 ∧ ¬ kk = 15 → S30 kk ii = S kk ii) ∧ 0 ≤ k30 ∧ k30 ≤ 4 ∧ 0 ≤ q30 ∧ q30 ≤ 1 ∧ (k30 ≤ z2 ∧ k30 ≤ z8)) → ∀ (H : Heap) (locs : List Loc) (ls : Array Slot), zW D (zT cI cJ cZ cP cS cM) L (zQ L sz) st (zMO cI cJ o S30 f) st.heap H locs → lv_has ls 10 [(5, .int (zI k30)), (6, .int (zI q30)), (4, .int (zI z8)), (3, .int (zI z2)), (0, .ref o), (1, .int (zI a)), (2, .int (zI b))] → W pg l en ({ frames := 5, cells := 0, slots := 0, locals := 125 } : Room) st mi ag bl mt cd H locs 0 0 Q (F0 mi 111 ls []) := by
      intro k30 q30 S30 hinv H locs ls hW hl
      obtain ⟨e30, hI30, hf30, hak30, hbk30, haq30, hbq30, hv30⟩ := hinv
      have hp30 := hI30.s10
      refine lv_aload_n hX0 hB0 dX12_laysCommon_111 rfl (lv_at hl 4 rfl) ?_
      refine lv_sipush (v := zI 143) hX0 hB0 dX12_laysCommon_112 (by decide) ?_
      refine z_callv hW (va_runV (C := RX12) (As := [.int (zI 143)]) (rest := []) CX.fix (zk_empties l o S30 143 hI30 (by constructor <;> omega)) (cwV 1 CX.fix.2.2.2.2 gX12_laysCommon_X12_empties rfl rfl rfl (by decide +kernel) ⟨Nat.le_of_ble_eq_true rfl, Nat.le_of_ble_eq_true rfl⟩) (z_preV CX hW (r := (RX12, TX12, 37)) zMO_0 rfl) rfl rfl hl.1 rfl (lv_room (Nat.le_of_ble_eq_true rfl)) dX12_laysCommon_115 ⟨Nat.zero_le _, Nat.zero_le _⟩) (fun gn H locs hok hW => ?_)
      obtain ⟨hg, hI115, hf115, hq115⟩ := hok
      obtain ⟨S115, e115⟩ : ∃ q, zm_empties S30 143 = q := ⟨_, rfl⟩
      rw [e115] at hg hI115 hf115
      skip
      try rw [e115] at hq115
      rw [hg] at hW
      clear hg
      refine lv_iload hX0 hB0 dX12_laysCommon_118 (lv_at hl 0 rfl) ?_
      refine z_if_ne (tgt := 134) CX dX12_laysCommon_120 (by decide) (by constructor <;> omega) (fun c_120 => ?_) (fun c_120 => ?_)
      ·
        refine lv_aload_n hX0 hB0 dX12_laysCommon_134 rfl (lv_at hl 4 rfl) ?_
        refine lv_sipush (v := zI 142) hX0 hB0 dX12_laysCommon_135 (by decide) ?_
        refine z_callv hW (va_runV (C := RX12) (As := [.int (zI 142)]) (rest := []) CX.fix (zk_empties l o S115 142 hI115 (by constructor <;> omega)) (cwV 1 CX.fix.2.2.2.2 gX12_laysCommon_X12_empties rfl rfl rfl (by decide +kernel) ⟨Nat.le_of_ble_eq_true rfl, Nat.le_of_ble_eq_true rfl⟩) (z_preV CX hW (r := (RX12, TX12, 37)) zMO_0 rfl) rfl rfl hl.1 rfl (lv_room (Nat.le_of_ble_eq_true rfl)) dX12_laysCommon_138 ⟨Nat.zero_le _, Nat.zero_le _⟩) (fun gn H locs hok hW => ?_)
        obtain ⟨hg, hI138, hf138, hq138⟩ := hok
        obtain ⟨S138, e138⟩ : ∃ q, zm_empties S115 142 = q := ⟨_, rfl⟩
        rw [e138] at hg hI138 hf138
        skip
        try rw [e138] at hq138
        rw [hg] at hW
        clear hg
        refine lv_iload hX0 hB0 dX12_laysCommon_141 (lv_at hl 2 rfl) ?_
        refine lv_iload hX0 hB0 dX12_laysCommon_143 (lv_at hl 0 rfl) ?_
        refine z_isub (z := z8 - k30) CX dX12_laysCommon_145 rfl ?_
        refine z_calli hW (va_runS (As := [.int (zI (z8 - k30))]) (rest := []) CX.fix (zk_manyTerms l (f := zMO cI cJ o S138 f) (z8 - k30) (by constructor <;> omega)) (va_cwS 1 CX.fix.2.2.2.2 gX12_laysCommon_X12_manyTerms rfl rfl rfl (by decide +kernel) ⟨Nat.le_of_ble_eq_true rfl, Nat.le_of_ble_eq_true rfl⟩) (z_preS CX hW) rfl rfl hl.1 rfl (lv_room (Nat.le_of_ble_eq_true rfl)) dX12_laysCommon_146 ⟨Nat.zero_le _, Nat.zero_le _⟩) (fun z146 gn H locs hok hW => ?_)
        obtain ⟨hz146, hg, hq146⟩ := hok
        rw [hg] at hW
        clear hg
        have e146 : zm_manyTerms (z8 - k30) = z146 := hz146.symm
        clear hz146
        refine lv_istore (lv' := [(7, .int (zI z146)), (5, .int (zI k30)), (6, .int (zI q30)), (4, .int (zI z8)), (3, .int (zI z2)), (0, .ref o), (1, .int (zI a)), (2, .int (zI b))]) hX0 hB0 dX12_laysCommon_149 hl (by decide) rfl (fun ls hl => ?_)
        refine lv_iconst (v := zI 0) hX0 hB0 dX12_laysCommon_151 rfl ?_
        refine lv_istore (lv' := [(8, .int (zI 0)), (7, .int (zI z146)), (5, .int (zI k30)), (6, .int (zI q30)), (4, .int (zI z8)), (3, .int (zI z2)), (0, .ref o), (1, .int (zI a)), (2, .int (zI b))]) hX0 hB0 dX12_laysCommon_152 hl (by decide) rfl (fun ls hl => ?_)
        have hL154 : ∀ (fu : Nat) (i154 : Int) (S154 : zS2), ((0 ≤ i154 ∧ i154 ≤ z2 - k30 + 1) ∧ zfor (zm_laysCommon_L154 z2 k30 z146) 0 S138 (i154 - 0).toNat = S154 ∧ mI S154 ∧ (∀ kk ii : Nat, ¬ (kk = 3 ∧ 3500 ≤ (ii : Int)) → S154 kk ii = S138 kk ii)) → ((z2 - k30) + 1 - i154).toNat < fu → ∀ (H : Heap) (locs : List Loc) (ls : Array Slot), zW D (zT cI cJ cZ cP cS cM) L (zQ L sz) st (zMO cI cJ o S154 f) st.heap H locs → lv_has ls 10 [(8, .int (zI i154)), (7, .int (zI z146)), (5, .int (zI k30)), (6, .int (zI q30)), (4, .int (zI z8)), (3, .int (zI z2)), (0, .ref o), (1, .int (zI a)), (2, .int (zI b))] → W pg l en ({ frames := 5, cells := 0, slots := 0, locals := 125 } : Room) st mi ag bl mt cd H locs 0 0 Q (F0 mi 154 ls []) := by
          intro fu
          induction fu with
          | zero => intro i154 S154 _ hfu; exact absurd hfu (Nat.not_lt_zero _)
          | succ fu ih154 =>
            intro i154 S154 hinv hfu154 H locs ls hW hl
            obtain ⟨⟨hlo154, hhi154⟩, hz154, hI154, hf154⟩ := hinv
            have hp154 := hI154.s10
            refine lv_iload hX0 hB0 dX12_laysCommon_154 (lv_at hl 0 rfl) ?_
            refine lv_iload_n hX0 hB0 dX12_laysCommon_156 rfl (lv_at hl 5 rfl) ?_
            refine lv_iload hX0 hB0 dX12_laysCommon_157 (lv_at hl 2 rfl) ?_
            refine z_isub (z := z2 - k30) CX dX12_laysCommon_159 rfl ?_
            refine z_icmp_gt (tgt := 217) CX dX12_laysCommon_160 (by decide) (by constructor <;> omega) (by constructor <;> omega) (fun c_160 => ?_) (fun c_160 => ?_)
            ·
              have e154 : zfor (zm_laysCommon_L154 z2 k30 z146) 0 S138 ((z2 - k30) + 1 - 0).toNat = S154 := by rw [show ((z2 - k30) + 1 - 0).toNat = (i154 - 0).toNat by omega]; exact hz154
              refine lv_aload_n hX0 hB0 dX12_laysCommon_217 rfl (lv_at hl 6 rfl) ?_
              refine lv_iload_n hX0 hB0 dX12_laysCommon_218 rfl (lv_at hl 7 rfl) ?_
              refine lv_iload hX0 hB0 dX12_laysCommon_219 (lv_at hl 2 rfl) ?_
              refine z_callv hW (va_runV (C := RX12) (As := [.int (zI a), .int (zI k30)]) (rest := []) CX.fix (zk_dividesBy l o S154 a k30 hI154 (by constructor <;> omega) (by constructor <;> omega)) (cwV 2 CX.fix.2.2.2.2 gX12_laysCommon_X12_dividesBy rfl rfl rfl (by decide +kernel) ⟨Nat.le_of_ble_eq_true rfl, Nat.le_of_ble_eq_true rfl⟩) (z_preV CX hW (r := (RX12, TX12, 37)) zMO_0 rfl) rfl rfl hl.1 rfl (lv_room (Nat.le_of_ble_eq_true rfl)) dX12_laysCommon_221 ⟨Nat.zero_le _, Nat.zero_le _⟩) (fun gn H locs hok hW => ?_)
              obtain ⟨hg, hI221, hf221, hq221⟩ := hok
              obtain ⟨S221, e221⟩ : ∃ q, zm_dividesBy S154 a k30 = q := ⟨_, rfl⟩
              rw [e221] at hg hI221 hf221
              skip
              try rw [e221] at hq221
              rw [hg] at hW
              clear hg
              refine lv_aload_n hX0 hB0 dX12_laysCommon_224 rfl (lv_at hl 6 rfl) ?_
              refine lv_sipush (v := zI 143) hX0 hB0 dX12_laysCommon_225 (by decide) ?_
              refine z_callv hW (va_runV (C := RX12) (As := [.int (zI 143)]) (rest := []) CX.fix (zk_normal l o S221 143 hI221 (by constructor <;> omega)) (cwV 1 CX.fix.2.2.2.2 gX12_laysCommon_X12_normal rfl rfl rfl (by decide +kernel) ⟨Nat.le_of_ble_eq_true rfl, Nat.le_of_ble_eq_true rfl⟩) (z_preV CX hW (r := (RX12, TX12, 37)) zMO_0 rfl) rfl rfl hl.1 rfl (lv_room (Nat.le_of_ble_eq_true rfl)) dX12_laysCommon_228 ⟨Nat.zero_le _, Nat.zero_le _⟩) (fun gn H locs hok hW => ?_)
              obtain ⟨hg, hI228, hf228, hq228⟩ := hok
              obtain ⟨S228, e228⟩ : ∃ q, zm_normal S221 143 = q := ⟨_, rfl⟩
              rw [e228] at hg hI228 hf228
              skip
              try rw [e228] at hq228
              rw [hg] at hW
              clear hg
              have hE : zm_laysCommon S a b = S228 := by unfold zm_laysCommon; exact zlet_e e2 (zlet_e e8 (zlet_e e16j (zlet_e e30 (zlet_e e115 (zif_f c_120 (zlet_e e138 (zlet_e e146 (zlet_e e154 (zlet_e e221 (zlet_e e228 rfl))))))))))
              have hFr : ∀ kk ii : Nat, ¬ kk = 13 ∧ ¬ kk = 14 ∧ ¬ kk = 15 ∧ ¬ (kk = 3 ∧ 3500 ≤ (ii : Int)) → S228 kk ii = S kk ii := fun kk ii hk => ((((((hf228 kk ii (by omega))).trans (hf221 kk ii (by omega))).trans (hf154 kk ii (by omega))).trans (hf138 kk ii (by omega))).trans (hf115 kk ii (by omega))).trans (hf30 kk ii (by omega))
              rw [← hQ]
              exact z_vret CX hW (by rw [hE]; exact ⟨rfl, hI228, hFr, trivial⟩) dX12_laysCommon_231
            ·
              refine lv_iconst (v := zI 0) hX0 hB0 dX12_laysCommon_163 rfl ?_
              refine lv_istore (lv' := [(9, .int (zI 0)), (8, .int (zI i154)), (7, .int (zI z146)), (5, .int (zI k30)), (6, .int (zI q30)), (4, .int (zI z8)), (3, .int (zI z2)), (0, .ref o), (1, .int (zI a)), (2, .int (zI b))]) hX0 hB0 dX12_laysCommon_164 hl (by decide) rfl (fun ls hl => ?_)
              have hL166 : ∀ (fu : Nat) (i166 : Int) (S166 : zS2), ((0 ≤ i166 ∧ i166 ≤ z2 - k30 - i154 + 1) ∧ zfor (zm_laysCommon_L166 z146 i154) 0 S154 (i166 - 0).toNat = S166 ∧ mI S166 ∧ (∀ kk ii : Nat, ¬ (kk = 3 ∧ 3500 ≤ (ii : Int)) → S166 kk ii = S154 kk ii)) → ((z2 - k30 - i154) + 1 - i166).toNat < fu → ∀ (H : Heap) (locs : List Loc) (ls : Array Slot), zW D (zT cI cJ cZ cP cS cM) L (zQ L sz) st (zMO cI cJ o S166 f) st.heap H locs → lv_has ls 10 [(9, .int (zI i166)), (8, .int (zI i154)), (7, .int (zI z146)), (5, .int (zI k30)), (6, .int (zI q30)), (4, .int (zI z8)), (3, .int (zI z2)), (0, .ref o), (1, .int (zI a)), (2, .int (zI b))] → W pg l en ({ frames := 5, cells := 0, slots := 0, locals := 125 } : Room) st mi ag bl mt cd H locs 0 0 Q (F0 mi 166 ls []) := by
                intro fu
                induction fu with
                | zero => intro i166 S166 _ hfu; exact absurd hfu (Nat.not_lt_zero _)
                | succ fu ih166 =>
                  intro i166 S166 hinv hfu166 H locs ls hW hl
                  obtain ⟨⟨hlo166, hhi166⟩, hz166, hI166, hf166⟩ := hinv
                  have hp166 := hI166.s10
                  refine lv_iload hX0 hB0 dX12_laysCommon_166 (lv_at hl 1 rfl) ?_
                  refine lv_iload hX0 hB0 dX12_laysCommon_168 (lv_at hl 0 rfl) ?_
                  refine z_iadd (z := i154 + i166) CX dX12_laysCommon_170 rfl ?_
                  refine lv_iload_n hX0 hB0 dX12_laysCommon_171 rfl (lv_at hl 6 rfl) ?_
                  refine lv_iload hX0 hB0 dX12_laysCommon_172 (lv_at hl 3 rfl) ?_
                  refine z_isub (z := z2 - k30) CX dX12_laysCommon_174 rfl ?_
                  refine z_icmp_gt (tgt := 211) CX dX12_laysCommon_175 (by decide) (by constructor <;> omega) (by constructor <;> omega) (fun c_175 => ?_) (fun c_175 => ?_)
                  ·
                    have e166 : zfor (zm_laysCommon_L166 z146 i154) 0 S154 ((z2 - k30 - i154) + 1 - 0).toNat = S166 := by rw [show ((z2 - k30 - i154) + 1 - 0).toNat = (i166 - 0).toNat by omega]; exact hz166
                    refine lv_iinc (v := zI (i154 + 1)) (lv' := [(8, .int (zI (i154 + 1))), (9, .int (zI i166)), (7, .int (zI z146)), (5, .int (zI k30)), (6, .int (zI q30)), (4, .int (zI z8)), (3, .int (zI z2)), (0, .ref o), (1, .int (zI a)), (2, .int (zI b))]) hX0 hB0 dX12_laysCommon_211 hl (k := 1) rfl (zI_add _ _) (by decide) rfl (fun ls hl => ?_)
                    refine lv_goto (tgt := 154) hX0 hB0 dX12_laysCommon_214 (by decide) ?_
                    exact ih154 (i154 + 1) S166 ⟨⟨by omega, by omega⟩, (zfor_s _ _ _ (by omega)).trans ((congrArg (zm_laysCommon_L154 z2 k30 z146 i154) hz154).trans (by unfold zm_laysCommon_L154; exact zlet_e e166 rfl)), hI166, fun kk ii hk => ((hf166 kk ii (by omega))).trans (hf154 kk ii (by omega))⟩ (by omega) H locs ls hW (lv_sub hl [0, 2, 3, 4, 5, 6, 7, 8, 9] rfl)
                  ·
                    refine lv_aload_n hX0 hB0 dX12_laysCommon_178 rfl (lv_at hl 7 rfl) ?_
                    refine lv_sipush (v := zI 142) hX0 hB0 dX12_laysCommon_179 (by decide) ?_
                    refine lv_iload hX0 hB0 dX12_laysCommon_182 (lv_at hl 1 rfl) ?_
                    refine lv_iload hX0 hB0 dX12_laysCommon_184 (lv_at hl 0 rfl) ?_
                    refine lv_aload_n hX0 hB0 dX12_laysCommon_186 rfl (lv_at hl 7 rfl) ?_
                    refine z_get (Cn := RX12) (T := TX12) (N := 37) CX hW (v := .ref (o + 13)) zMO_0 rfl (fun w h => List.mem_cons_of_mem _ (List.mem_append_right _ h)) 27 (by decide) (List.mem_of_getElem? (i := 2) rfl) rfl rfl dX12_laysCommon_187 ?_
                    refine lv_iload hX0 hB0 dX12_laysCommon_190 (lv_at hl 2 rfl) ?_
                    refine lv_iload hX0 hB0 dX12_laysCommon_192 (lv_at hl 1 rfl) ?_
                    refine lv_iload hX0 hB0 dX12_laysCommon_194 (lv_at hl 0 rfl) ?_
                    refine z_calli hW (va_runS (As := [.int (zI i154), .int (zI i166)]) (rest := [.int (zI z146), .ref (o + 13), .int (zI i166), .int (zI i154), .int (zI 142), .ref o]) CX.fix (zk_termAt l (f := zMO cI cJ o S166 f) i154 i166 (by constructor <;> omega) (by constructor <;> omega) (by omega)) (va_cwS 2 CX.fix.2.2.2.2 gX12_laysCommon_X12_termAt rfl rfl rfl (by decide +kernel) ⟨Nat.le_of_ble_eq_true rfl, Nat.le_of_ble_eq_true rfl⟩) (z_preS CX hW) rfl rfl hl.1 rfl (lv_room (Nat.le_of_ble_eq_true rfl)) dX12_laysCommon_196 ⟨Nat.zero_le _, Nat.zero_le _⟩) (fun z196 gn H locs hok hW => ?_)
                    obtain ⟨hz196, hg, hq196⟩ := hok
                    rw [hg] at hW
                    clear hg
                    have e196 : zm_termAt i154 i166 = z196 := hz196.symm
                    clear hz196
                    refine z_iadd (z := z146 + z196) CX dX12_laysCommon_199 rfl ?_
                    refine z_iald (z := S166 13 ((z146 + z196).toNat)) CX hW zMO_13 0 rfl (by refine ⟨?_, ?_, ?_⟩ <;> omega) rfl dX12_laysCommon_200 ?_
                    have hr200 := hI166.r13 ((z146 + z196).toNat)
                    refine z_i2l CX dX12_laysCommon_201 (by constructor <;> omega) ?_
                    refine z_callv hW (va_runV (C := RX12) (As := [.int (zI 142), .int (zI i154), .int (zI i166), .long (zL (S166 13 ((z146 + z196).toNat)))]) (rest := []) CX.fix (zk_sets l o S166 142 i154 i166 (S166 13 ((z146 + z196).toNat)) hI166 (by constructor <;> omega) (by constructor <;> omega) (by constructor <;> omega) (by constructor <;> omega)) (cwV 4 CX.fix.2.2.2.2 gX12_laysCommon_X12_sets rfl rfl rfl (by decide +kernel) ⟨Nat.le_of_ble_eq_true rfl, Nat.le_of_ble_eq_true rfl⟩) (z_preV CX hW (r := (RX12, TX12, 37)) zMO_0 rfl) rfl rfl hl.1 rfl (lv_room (Nat.le_of_ble_eq_true rfl)) dX12_laysCommon_202 ⟨Nat.zero_le _, Nat.zero_le _⟩) (fun gn H locs hok hW => ?_)
                    obtain ⟨hg, hI202, hf202, hq202⟩ := hok
                    obtain ⟨S202, e202⟩ : ∃ q, zm_sets S166 142 i154 i166 (S166 13 ((z146 + z196).toNat)) = q := ⟨_, rfl⟩
                    rw [e202] at hg hI202 hf202
                    skip
                    try rw [e202] at hq202
                    rw [hg] at hW
                    clear hg
                    refine lv_iinc (v := zI (i166 + 1)) (lv' := [(9, .int (zI (i166 + 1))), (8, .int (zI i154)), (7, .int (zI z146)), (5, .int (zI k30)), (6, .int (zI q30)), (4, .int (zI z8)), (3, .int (zI z2)), (0, .ref o), (1, .int (zI a)), (2, .int (zI b))]) hX0 hB0 dX12_laysCommon_205 hl (k := 0) rfl (zI_add _ _) (by decide) rfl (fun ls hl => ?_)
                    refine lv_goto (tgt := 166) hX0 hB0 dX12_laysCommon_208 (by decide) ?_
                    exact ih166 (i166 + 1) S202 ⟨⟨by omega, by omega⟩, (zfor_s _ _ _ (by omega)).trans ((congrArg (zm_laysCommon_L166 z146 i154 i166) hz166).trans (by unfold zm_laysCommon_L166; exact zlet_e e196 (zlet_e e202 rfl))), hI202, fun kk ii hk => ((hf202 kk ii (by omega))).trans (hf166 kk ii (by omega))⟩ (by omega) H locs ls hW (lv_sub hl [0, 1, 2, 3, 4, 5, 6, 7, 8, 9] rfl)
              exact hL166 _ 0 S154 ⟨⟨by omega, by omega⟩, zfor_0 _ _ _, hI154, fun kk ii hk => rfl⟩ (Nat.lt_succ_self _) H locs ls hW (lv_sub hl [0, 1, 2, 3, 4, 5, 6, 7, 8, 9] rfl)
        exact hL154 _ 0 S138 ⟨⟨by omega, by omega⟩, zfor_0 _ _ _, hI138, fun kk ii hk => rfl⟩ (Nat.lt_succ_self _) H locs ls hW (lv_sub hl [0, 1, 2, 3, 4, 5, 6, 7, 8] rfl)
      ·
        refine lv_aload_n hX0 hB0 dX12_laysCommon_123 rfl (lv_at hl 4 rfl) ?_
        refine lv_sipush (v := zI 143) hX0 hB0 dX12_laysCommon_124 (by decide) ?_
        refine lv_iconst (v := zI 0) hX0 hB0 dX12_laysCommon_127 rfl ?_
        refine lv_iconst (v := zI 0) hX0 hB0 dX12_laysCommon_128 rfl ?_
        refine lv_lconst (v := zL 1) hX0 hB0 dX12_laysCommon_129 rfl ?_
        refine z_callv hW (va_runV (C := RX12) (As := [.int (zI 143), .int (zI 0), .int (zI 0), .long (zL 1)]) (rest := []) CX.fix (zk_sets l o S115 143 0 0 1 hI115 (by constructor <;> omega) (by constructor <;> omega) (by constructor <;> omega) (by constructor <;> omega)) (cwV 4 CX.fix.2.2.2.2 gX12_laysCommon_X12_sets rfl rfl rfl (by decide +kernel) ⟨Nat.le_of_ble_eq_true rfl, Nat.le_of_ble_eq_true rfl⟩) (z_preV CX hW (r := (RX12, TX12, 37)) zMO_0 rfl) rfl rfl hl.1 rfl (lv_room (Nat.le_of_ble_eq_true rfl)) dX12_laysCommon_130 ⟨Nat.zero_le _, Nat.zero_le _⟩) (fun gn H locs hok hW => ?_)
        obtain ⟨hg, hI130, hf130, hq130⟩ := hok
        obtain ⟨S130, e130⟩ : ∃ q, zm_sets S115 143 0 0 1 = q := ⟨_, rfl⟩
        rw [e130] at hg hI130 hf130
        skip
        try rw [e130] at hq130
        rw [hg] at hW
        clear hg
        have hE : zm_laysCommon S a b = S130 := by unfold zm_laysCommon; exact zlet_e e2 (zlet_e e8 (zlet_e e16j (zlet_e e30 (zlet_e e115 (zif_t c_120 (zlet_e e130 rfl))))))
        have hFr : ∀ kk ii : Nat, ¬ kk = 13 ∧ ¬ kk = 14 ∧ ¬ kk = 15 ∧ ¬ (kk = 3 ∧ 3500 ≤ (ii : Int)) → S130 kk ii = S kk ii := fun kk ii hk => (((hf130 kk ii (by omega))).trans (hf115 kk ii (by omega))).trans (hf30 kk ii (by omega))
        rw [← hQ]
        exact z_vret CX hW (by rw [hE]; exact ⟨rfl, hI130, hFr, trivial⟩) dX12_laysCommon_133
    have hL30 : ∀ (fu : Nat) (k30 : Int) (q30 : Int) (S30 : zS2), (zm_laysCommon_W30 a b z2 z8 ((8 : Nat)) k16j 0 S = zm_laysCommon_W30 a b z2 z8 fu k30 q30 S30 ∧ mI S30 ∧ (∀ kk ii : Nat, ¬ kk = 13 ∧ ¬ kk = 14 ∧ ¬ kk = 15 → S30 kk ii = S kk ii) ∧ 0 ≤ k30 ∧ k30 ≤ 4 ∧ 0 ≤ q30 ∧ q30 ≤ 1 ∧ (k30 ≤ z2 ∧ k30 ≤ z8)) → k30.toNat + (1 - q30).toNat < fu → ∀ (H : Heap) (locs : List Loc) (ls : Array Slot), zW D (zT cI cJ cZ cP cS cM) L (zQ L sz) st (zMO cI cJ o S30 f) st.heap H locs → lv_has ls 10 [(5, .int (zI k30)), (6, .int (zI q30)), (4, .int (zI z8)), (3, .int (zI z2)), (0, .ref o), (1, .int (zI a)), (2, .int (zI b))] → W pg l en ({ frames := 5, cells := 0, slots := 0, locals := 125 } : Room) st mi ag bl mt cd H locs 0 0 Q (F0 mi 30 ls []) := by
      intro fu
      induction fu with
      | zero => intro k30 q30 S30 _ hfu; exact absurd hfu (Nat.not_lt_zero _)
      | succ fu ih30 =>
        intro k30 q30 S30 hinv hfu30 H locs ls hW hl
        obtain ⟨hz30, hI30, hf30, hak30, hbk30, haq30, hbq30, hv30⟩ := hinv
        have hp30 := hI30.s10
        refine lv_iload hX0 hB0 dX12_laysCommon_30 (lv_at hl 0 rfl) ?_
        refine z_if_le (tgt := 111) CX dX12_laysCommon_32 (by decide) (by constructor <;> omega) (fun c_32 => ?_) (fun c_32 => ?_)
        ·
          exact hXt30 k30 q30 S30 ⟨hz30.trans (by rw [zm_laysCommon_W30]; exact zif_t c_32 rfl), hI30, fun kk ii hk => (hf30 kk ii (by omega)), by omega, by omega, by omega, by omega, ⟨by omega, by omega⟩⟩ H locs ls hW (lv_sub hl [0, 1, 2, 3, 4, 5, 6] rfl)
        ·
          have d_32 : ¬ k30 ≤ 0 := by omega
          refine lv_iload hX0 hB0 dX12_laysCommon_35 (lv_at hl 1 rfl) ?_
          refine z_if_ne (tgt := 111) CX dX12_laysCommon_37 (by decide) (by constructor <;> omega) (fun c_37 => ?_) (fun c_37 => ?_)
          ·
            exact hXt30 k30 q30 S30 ⟨hz30.trans (by rw [zm_laysCommon_W30]; exact zif_f d_32 (zif_f c_37 rfl)), hI30, fun kk ii hk => (hf30 kk ii (by omega)), by omega, by omega, by omega, by omega, ⟨by omega, by omega⟩⟩ H locs ls hW (lv_sub hl [0, 1, 2, 3, 4, 5, 6] rfl)
          ·
            refine lv_aload_n hX0 hB0 dX12_laysCommon_40 rfl (lv_at hl 4 rfl) ?_
            refine z_callv hW (va_runV (C := RX12) (As := []) (rest := []) CX.fix (zk_emptiesEquations l o S30  hI30 ) (cwV 0 CX.fix.2.2.2.2 gX12_laysCommon_X12_emptiesEquations rfl rfl rfl (by decide +kernel) ⟨Nat.le_of_ble_eq_true rfl, Nat.le_of_ble_eq_true rfl⟩) (z_preV CX hW (r := (RX12, TX12, 37)) zMO_0 rfl) rfl rfl hl.1 rfl (lv_room (Nat.le_of_ble_eq_true rfl)) dX12_laysCommon_41 ⟨Nat.zero_le _, Nat.zero_le _⟩) (fun gn H locs hok hW => ?_)
            obtain ⟨hg, hI41, hf41, hq41⟩ := hok
            obtain ⟨S41, e41⟩ : ∃ q, zm_emptiesEquations S30 = q := ⟨_, rfl⟩
            rw [e41] at hg hI41 hf41
            skip
            try rw [e41] at hq41
            rw [hg] at hW
            clear hg
            refine lv_aload_n hX0 hB0 dX12_laysCommon_44 rfl (lv_at hl 4 rfl) ?_
            refine lv_iconst (v := zI 0) hX0 hB0 dX12_laysCommon_45 rfl ?_
            refine lv_iload hX0 hB0 dX12_laysCommon_46 (lv_at hl 2 rfl) ?_
            refine lv_iload hX0 hB0 dX12_laysCommon_48 (lv_at hl 0 rfl) ?_
            refine z_isub (z := z8 - k30) CX dX12_laysCommon_50 rfl ?_
            refine lv_iload_n hX0 hB0 dX12_laysCommon_51 rfl (lv_at hl 5 rfl) ?_
            refine lv_lconst (v := zL 1) hX0 hB0 dX12_laysCommon_52 rfl ?_
            refine z_callv hW (va_runV (C := RX12) (As := [.int (zI 0), .int (zI (z8 - k30)), .int (zI a), .long (zL 1)]) (rest := []) CX.fix (zk_addsUnknowns l o S41 0 (z8 - k30) a 1 hI41 (by constructor <;> omega) (by constructor <;> omega) (by constructor <;> omega) (by constructor <;> omega)) (cwV 4 CX.fix.2.2.2.2 gX12_laysCommon_X12_addsUnknowns rfl rfl rfl (by decide +kernel) ⟨Nat.le_of_ble_eq_true rfl, Nat.le_of_ble_eq_true rfl⟩) (z_preV CX hW (r := (RX12, TX12, 37)) zMO_0 rfl) rfl rfl hl.1 rfl (lv_room (Nat.le_of_ble_eq_true rfl)) dX12_laysCommon_53 ⟨Nat.zero_le _, Nat.zero_le _⟩) (fun gn H locs hok hW => ?_)
            obtain ⟨hg, hI53, hf53, hq53⟩ := hok
            obtain ⟨S53, e53⟩ : ∃ q, zm_addsUnknowns S41 0 (z8 - k30) a 1 = q := ⟨_, rfl⟩
            rw [e53] at hg hI53 hf53
            skip
            try rw [e53] at hq53
            rw [hg] at hW
            clear hg
            refine lv_aload_n hX0 hB0 dX12_laysCommon_56 rfl (lv_at hl 4 rfl) ?_
            refine lv_iload hX0 hB0 dX12_laysCommon_57 (lv_at hl 2 rfl) ?_
            refine lv_iload hX0 hB0 dX12_laysCommon_59 (lv_at hl 0 rfl) ?_
            refine z_isub (z := z8 - k30) CX dX12_laysCommon_61 rfl ?_
            refine z_calli hW (va_runS (As := [.int (zI (z8 - k30))]) (rest := [.ref o]) CX.fix (zk_manyTerms l (f := zMO cI cJ o S53 f) (z8 - k30) (by constructor <;> omega)) (va_cwS 1 CX.fix.2.2.2.2 gX12_laysCommon_X12_manyTerms rfl rfl rfl (by decide +kernel) ⟨Nat.le_of_ble_eq_true rfl, Nat.le_of_ble_eq_true rfl⟩) (z_preS CX hW) rfl rfl hl.1 rfl (lv_room (Nat.le_of_ble_eq_true rfl)) dX12_laysCommon_62 ⟨Nat.zero_le _, Nat.zero_le _⟩) (fun z62 gn H locs hok hW => ?_)
            obtain ⟨hz62, hg, hq62⟩ := hok
            rw [hg] at hW
            clear hg
            have e62 : zm_manyTerms (z8 - k30) = z62 := hz62.symm
            clear hz62
            refine lv_iload_n hX0 hB0 dX12_laysCommon_65 rfl (lv_at hl 3 rfl) ?_
            refine lv_iload hX0 hB0 dX12_laysCommon_66 (lv_at hl 0 rfl) ?_
            refine z_isub (z := z2 - k30) CX dX12_laysCommon_68 rfl ?_
            refine lv_iload_n hX0 hB0 dX12_laysCommon_69 rfl (lv_at hl 6 rfl) ?_
            refine lv_ldc2 (v := zL (-1)) hX0 hB0 CX.2.2.2.1 (CX.at (List.mem_of_getElem? (i := 1) rfl)) dX12_laysCommon_70 ?_
            refine z_callv hW (va_runV (C := RX12) (As := [.int (zI z62), .int (zI (z2 - k30)), .int (zI b), .long (zL (-1))]) (rest := []) CX.fix (zk_addsUnknowns l o S53 z62 (z2 - k30) b (-1) hI53 (by constructor <;> omega) (by constructor <;> omega) (by constructor <;> omega) (by constructor <;> omega)) (cwV 4 CX.fix.2.2.2.2 gX12_laysCommon_X12_addsUnknowns rfl rfl rfl (by decide +kernel) ⟨Nat.le_of_ble_eq_true rfl, Nat.le_of_ble_eq_true rfl⟩) (z_preV CX hW (r := (RX12, TX12, 37)) zMO_0 rfl) rfl rfl hl.1 rfl (lv_room (Nat.le_of_ble_eq_true rfl)) dX12_laysCommon_73 ⟨Nat.zero_le _, Nat.zero_le _⟩) (fun gn H locs hok hW => ?_)
            obtain ⟨hg, hI73, hf73, hq73⟩ := hok
            obtain ⟨S73, e73⟩ : ∃ q, zm_addsUnknowns S53 z62 (z2 - k30) b (-1) = q := ⟨_, rfl⟩
            rw [e73] at hg hI73 hf73
            skip
            try rw [e73] at hq73
            rw [hg] at hW
            clear hg
            refine lv_aload_n hX0 hB0 dX12_laysCommon_76 rfl (lv_at hl 4 rfl) ?_
            refine lv_bipush (v := zI 45) hX0 hB0 dX12_laysCommon_77 (by decide) ?_
            refine lv_iload hX0 hB0 dX12_laysCommon_79 (lv_at hl 2 rfl) ?_
            refine lv_iload hX0 hB0 dX12_laysCommon_81 (lv_at hl 0 rfl) ?_
            refine z_isub (z := z8 - k30) CX dX12_laysCommon_83 rfl ?_
            refine z_calli hW (va_runS (As := [.int (zI (z8 - k30))]) (rest := [.int (zI 45), .ref o]) CX.fix (zk_manyTerms l (f := zMO cI cJ o S73 f) (z8 - k30) (by constructor <;> omega)) (va_cwS 1 CX.fix.2.2.2.2 gX12_laysCommon_X12_manyTerms rfl rfl rfl (by decide +kernel) ⟨Nat.le_of_ble_eq_true rfl, Nat.le_of_ble_eq_true rfl⟩) (z_preS CX hW) rfl rfl hl.1 rfl (lv_room (Nat.le_of_ble_eq_true rfl)) dX12_laysCommon_84 ⟨Nat.zero_le _, Nat.zero_le _⟩) (fun z84 gn H locs hok hW => ?_)
            obtain ⟨hz84, hg, hq84⟩ := hok
            rw [hg] at hW
            clear hg
            have e84 : zm_manyTerms (z8 - k30) = z84 := hz84.symm
            clear hz84
            refine lv_iload_n hX0 hB0 dX12_laysCommon_87 rfl (lv_at hl 3 rfl) ?_
            refine lv_iload hX0 hB0 dX12_laysCommon_88 (lv_at hl 0 rfl) ?_
            refine z_isub (z := z2 - k30) CX dX12_laysCommon_90 rfl ?_
            refine z_calli hW (va_runS (As := [.int (zI (z2 - k30))]) (rest := [.int (zI z84), .int (zI 45), .ref o]) CX.fix (zk_manyTerms l (f := zMO cI cJ o S73 f) (z2 - k30) (by constructor <;> omega)) (va_cwS 1 CX.fix.2.2.2.2 gX12_laysCommon_X12_manyTerms rfl rfl rfl (by decide +kernel) ⟨Nat.le_of_ble_eq_true rfl, Nat.le_of_ble_eq_true rfl⟩) (z_preS CX hW) rfl rfl hl.1 rfl (lv_room (Nat.le_of_ble_eq_true rfl)) dX12_laysCommon_91 ⟨Nat.zero_le _, Nat.zero_le _⟩) (fun z91 gn H locs hok hW => ?_)
            obtain ⟨hz91, hg, hq91⟩ := hok
            rw [hg] at hW
            clear hg
            have e91 : zm_manyTerms (z2 - k30) = z91 := hz91.symm
            clear hz91
            refine z_iadd (z := z84 + z91) CX dX12_laysCommon_94 rfl ?_
            refine z_calli hW (va_runV (C := RX12) (As := [.int (zI 45), .int (zI (z84 + z91))]) (rest := []) CX.fix (zk_solves l o S73 45 (z84 + z91) hI73 (by constructor <;> omega) (by constructor <;> omega)) (cwV 2 CX.fix.2.2.2.2 gX12_laysCommon_X12_solves rfl rfl rfl (by decide +kernel) ⟨Nat.le_of_ble_eq_true rfl, Nat.le_of_ble_eq_true rfl⟩) (z_preV CX hW (r := (RX12, TX12, 37)) zMO_0 rfl) rfl rfl hl.1 rfl (lv_room (Nat.le_of_ble_eq_true rfl)) dX12_laysCommon_95 ⟨Nat.zero_le _, Nat.zero_le _⟩) (fun z95 gn H locs hok hW => ?_)
            obtain ⟨hz95, hg, hI95, hf95, hq95⟩ := hok
            obtain ⟨S95, hS95⟩ : ∃ q, q = (zm_solves S73 45 (z84 + z91)).2 := ⟨_, rfl⟩
            rw [← hS95] at hg hI95 hf95
            skip
            try rw [← hS95] at hq95
            rw [hg] at hW
            clear hg
            have e95 : zm_solves S73 45 (z84 + z91) = (z95, S95) := Prod.ext hz95.symm hS95.symm
            clear hz95 hS95
            refine lv_istore (lv' := [(6, .int (zI z95)), (5, .int (zI k30)), (4, .int (zI z8)), (3, .int (zI z2)), (0, .ref o), (1, .int (zI a)), (2, .int (zI b))]) hX0 hB0 dX12_laysCommon_98 hl (by decide) rfl (fun ls hl => ?_)
            refine lv_iload hX0 hB0 dX12_laysCommon_100 (lv_at hl 0 rfl) ?_
            refine z_if_ne (tgt := 30) CX dX12_laysCommon_102 (by decide) (by constructor <;> omega) (fun c_102 => ?_) (fun c_102 => ?_)
            ·
              exact ih30 k30 z95 S95 ⟨hz30.trans (by rw [zm_laysCommon_W30]; exact zif_f d_32 (zif_t c_37 (zlet_e e41 (zlet_e e53 (zlet_e e62 (zlet_e e73 (zlet_e e84 (zlet_e e91 (zlet_e e95 (zif_f c_102 rfl)))))))))), hI95, fun kk ii hk => (((((hf95 kk ii (by omega))).trans (hf73 kk ii (by omega))).trans (hf53 kk ii (by omega))).trans (hf41 kk ii (by omega))).trans (hf30 kk ii (by omega)), by omega, by omega, by omega, by omega, ⟨by omega, by omega⟩⟩ (by omega) H locs ls hW (lv_sub hl [1, 0, 2, 3, 4, 5, 6] rfl)
            ·
              refine lv_iinc (v := zI (k30 + (-1))) (lv' := [(5, .int (zI (k30 + (-1)))), (6, .int (zI z95)), (4, .int (zI z8)), (3, .int (zI z2)), (0, .ref o), (1, .int (zI a)), (2, .int (zI b))]) hX0 hB0 dX12_laysCommon_105 hl (k := 1) rfl (zI_add _ _) (by decide) rfl (fun ls hl => ?_)
              refine lv_goto (tgt := 30) hX0 hB0 dX12_laysCommon_108 (by decide) ?_
              exact ih30 (k30 + (-1)) z95 S95 ⟨hz30.trans (by rw [zm_laysCommon_W30]; exact zif_f d_32 (zif_t c_37 (zlet_e e41 (zlet_e e53 (zlet_e e62 (zlet_e e73 (zlet_e e84 (zlet_e e91 (zlet_e e95 (zif_t c_102 rfl)))))))))), hI95, fun kk ii hk => (((((hf95 kk ii (by omega))).trans (hf73 kk ii (by omega))).trans (hf53 kk ii (by omega))).trans (hf41 kk ii (by omega))).trans (hf30 kk ii (by omega)), by omega, by omega, by omega, by omega, ⟨by omega, by omega⟩⟩ (by omega) H locs ls hW (lv_sub hl [0, 1, 2, 3, 4, 5, 6] rfl)
    exact hL30 _ k16j 0 S ⟨rfl, hI, fun kk ii hk => rfl, by omega, by omega, by omega, by omega, ⟨by omega, by omega⟩⟩ (by omega) H locs ls hW (lv_sub hl [1, 0, 2, 3, 4, 5, 6] rfl)
  refine z_icmp_ge (tgt := 23) CX dX12_laysCommon_16 (by decide) (by constructor <;> omega) (by constructor <;> omega) (fun c_16 => ?_) (fun c_16 => ?_)
  ·
    refine lv_iload hX0 hB0 dX12_laysCommon_23 (lv_at hl 0 rfl) ?_
    exact hJ16 z8 ⟨(by unfold zm_laysCommon_J16; exact zif_t c_16 rfl), by omega, by omega, ⟨by omega, by omega⟩⟩ H locs ls hW (lv_sub hl [0, 1, 2, 3, 4] rfl)
  ·
    have d_16 : ¬ z8 ≤ z2 := by omega
    refine lv_iload_n hX0 hB0 dX12_laysCommon_19 rfl (lv_at hl 1 rfl) ?_
    refine lv_goto (tgt := 25) hX0 hB0 dX12_laysCommon_20 (by decide) ?_
    exact hJ16 z2 ⟨(by unfold zm_laysCommon_J16; exact zif_f d_16 rfl), by omega, by omega, ⟨by omega, by omega⟩⟩ H locs ls hW (lv_sub hl [0, 1, 2, 3, 4] rfl)
def zm_areCurves (S : zS2) (a : Int) (b : Int) : Int := zlet (zm_isCurve S a) (fun z2 => (if z2 = 0 then 0 else zlet (zm_isCurve S b) (fun z10 => (if z10 = 0 then 0 else 1))))
set_option maxRecDepth 100000 in
set_option maxHeartbeats 4000000 in
theorem zk_areCurves (l : Launch) {D : va_G} {cI cJ cZ cP cS cM : ClassId} {L : List Nat} {sz : Nat} {f : Nat → va_E} (o : Nat) (S : zS2) (a : Int) (b : Int) (hI : mI S) (ha : -2147483648 ≤ a ∧ a ≤ 2147483647) (hb : -2147483648 ≤ b ∧ b ≤ 2147483647) : zMi l yX12_areCurves wsX12_areCurves 2 43 D (zT cI cJ cZ cP cS cM) L sz (zMO cI cJ o S f) [.ref o, .int (zI a), .int (zI b)] (fun zv gv => zv = zm_areCurves S a b ∧ gv = zMO cI cJ o S f ∧ 0 ≤ zv ∧ zv ≤ 1 ∧ (zv ≠ 0 → 0 ≤ a ∧ a < S 0 13 ∧ a ≤ 5 ∧ 0 ≤ b ∧ b < S 0 13 ∧ b ≤ 5)) := by
  refine zWalk.met (nL := 3) (ret := (some .boolean)) (cc := cX12_areCurves) (by decide) rfl (Nat.le_of_ble_eq_true rfl) ?_
  intro pg en st mi ag bl mt cd ls CX hW hl
  have CX : zC pg st mi ag mt cd cX12_areCurves 3 (some .boolean) RX12 wsX12_areCurves := CX
  generalize hQ : MQ bl _ ag st 0 0 _ = Q
  have hX0 := CX.1
  have hB0 := CX.2.1
  have hl : lv_has ls 3 [(0, .ref o), (1, .int (zI a)), (2, .int (zI b))] := hl
  obtain ⟨H, eH⟩ : ∃ H, H = st.heap := ⟨_, rfl⟩
  obtain ⟨locs, eL⟩ : ∃ L : List Loc, L = [] := ⟨_, rfl⟩
  have hW : zW D (zT cI cJ cZ cP cS cM) L (zQ L sz) st (zMO cI cJ o S f) st.heap H locs := by rw [eH, eL]; exact hW
  suffices hgo : W pg l en ({ frames := 2, cells := 0, slots := 0, locals := 43 } : Room) st mi ag bl mt cd H locs 0 0 Q (F0 mi 0 ls []) by rw [eH, eL] at hgo; exact hgo
  clear eH eL
  have hpb := hI.s10
  refine lv_aload_n hX0 hB0 dX12_areCurves_0 rfl (lv_at hl 0 rfl) ?_
  refine lv_iload_n hX0 hB0 dX12_areCurves_1 rfl (lv_at hl 1 rfl) ?_
  refine z_calli hW (va_runV (C := RX12) (As := [.int (zI a)]) (rest := []) CX.fix (zk_isCurve l o S a hI (by constructor <;> omega)) (cwV 1 CX.fix.2.2.2.2 gX12_areCurves_X12_isCurve rfl rfl rfl (by decide +kernel) ⟨Nat.le_of_ble_eq_true rfl, Nat.le_of_ble_eq_true rfl⟩) (z_preV CX hW (r := (RX12, TX12, 37)) zMO_0 rfl) rfl rfl hl.1 rfl (lv_room (Nat.le_of_ble_eq_true rfl)) dX12_areCurves_2 ⟨Nat.zero_le _, Nat.zero_le _⟩) (fun z2 gn H locs hok hW => ?_)
  obtain ⟨hz2, hg, hq2⟩ := hok
  rw [hg] at hW
  clear hg
  have e2 : zm_isCurve S a = z2 := hz2.symm
  clear hz2
  refine z_if_eq (tgt := 20) CX dX12_areCurves_5 (by decide) (by constructor <;> omega) (fun c_5 => ?_) (fun c_5 => ?_)
  ·
    refine lv_iconst (v := zI 0) hX0 hB0 dX12_areCurves_20 rfl ?_
    have hE : zm_areCurves S a b = 0 := by unfold zm_areCurves; exact zlet_e e2 (zif_t c_5 rfl)
    rw [← hQ]
    exact z_iret (z := 0) CX hW (by rw [hE]; exact ⟨rfl, rfl, (show 0 ≤ (0 : Int) ∧ (0 : Int) ≤ 1 ∧ ((0 : Int) ≠ 0 → 0 ≤ a ∧ a < S 0 13 ∧ a ≤ 5 ∧ 0 ≤ b ∧ b < S 0 13 ∧ b ≤ 5) from by omega)⟩) rfl dX12_areCurves_21
  ·
    refine lv_aload_n hX0 hB0 dX12_areCurves_8 rfl (lv_at hl 0 rfl) ?_
    refine lv_iload_n hX0 hB0 dX12_areCurves_9 rfl (lv_at hl 2 rfl) ?_
    refine z_calli hW (va_runV (C := RX12) (As := [.int (zI b)]) (rest := []) CX.fix (zk_isCurve l o S b hI (by constructor <;> omega)) (cwV 1 CX.fix.2.2.2.2 gX12_areCurves_X12_isCurve rfl rfl rfl (by decide +kernel) ⟨Nat.le_of_ble_eq_true rfl, Nat.le_of_ble_eq_true rfl⟩) (z_preV CX hW (r := (RX12, TX12, 37)) zMO_0 rfl) rfl rfl hl.1 rfl (lv_room (Nat.le_of_ble_eq_true rfl)) dX12_areCurves_10 ⟨Nat.zero_le _, Nat.zero_le _⟩) (fun z10 gn H locs hok hW => ?_)
    obtain ⟨hz10, hg, hq10⟩ := hok
    rw [hg] at hW
    clear hg
    have e10 : zm_isCurve S b = z10 := hz10.symm
    clear hz10
    refine z_if_eq (tgt := 20) CX dX12_areCurves_13 (by decide) (by constructor <;> omega) (fun c_13 => ?_) (fun c_13 => ?_)
    ·
      refine lv_iconst (v := zI 0) hX0 hB0 dX12_areCurves_20 rfl ?_
      have hE : zm_areCurves S a b = 0 := by unfold zm_areCurves; exact zlet_e e2 (zif_f c_5 (zlet_e e10 (zif_t c_13 rfl)))
      rw [← hQ]
      exact z_iret (z := 0) CX hW (by rw [hE]; exact ⟨rfl, rfl, (show 0 ≤ (0 : Int) ∧ (0 : Int) ≤ 1 ∧ ((0 : Int) ≠ 0 → 0 ≤ a ∧ a < S 0 13 ∧ a ≤ 5 ∧ 0 ≤ b ∧ b < S 0 13 ∧ b ≤ 5) from by omega)⟩) rfl dX12_areCurves_21
    ·
      refine lv_iconst (v := zI 1) hX0 hB0 dX12_areCurves_16 rfl ?_
      refine lv_goto (tgt := 21) hX0 hB0 dX12_areCurves_17 (by decide) ?_
      have hE : zm_areCurves S a b = 1 := by unfold zm_areCurves; exact zlet_e e2 (zif_f c_5 (zlet_e e10 (zif_f c_13 rfl)))
      rw [← hQ]
      exact z_iret (z := 1) CX hW (by rw [hE]; exact ⟨rfl, rfl, (show 0 ≤ (1 : Int) ∧ (1 : Int) ≤ 1 ∧ ((1 : Int) ≠ 0 → 0 ≤ a ∧ a < S 0 13 ∧ a ≤ 5 ∧ 0 ≤ b ∧ b < S 0 13 ∧ b ≤ 5) from by omega)⟩) rfl dX12_areCurves_21
end ZMn
