section ZMr
def zm_moved_J57 (e : Int) (z54 : Int) : Int := (if z54 = 0 then 0 else e)
def zm_moved_J81 (k : Int) (z78 : Int) : Int := (if z78 = 0 then 0 else k)
def zm_moved (S : zS2) (pt : Int) (a : Int) (b : Int) (e : Int) (c : Int) (d : Int) (k : Int) : Int := zlet (zm_isPoint S pt) (fun z2 => (if z2 = 0 then -1 else zlet (zm_canMove S a b c d) (fun z15 => (if z15 = 0 then -1 else zlet (zm_modulo S ((a * d) - (b * c))) (fun z38 => zlet (zm_inverse S z38) (fun z41 => zlet (zm_xOf S pt) (fun z48 => zlet (zm_isNear S pt) (fun z54 => zlet (zm_moved_J57 e z54) (fun x57j => zlet (zm_yOf S pt) (fun z72 => zlet (zm_isNear S pt) (fun z78 => zlet (zm_moved_J81 k z78) (fun y81j => zlet (zm_modulo S (z48 - x57j)) (fun z99 => zlet (zm_modulo S d) (fun z107 => zlet (zm_modulo S (z72 - y81j)) (fun z115 => zlet (zm_modulo S b) (fun z122 => zlet (zm_modulo S ((z99 * z107) - (z115 * z122))) (fun z128 => zlet (zm_modulo S (z128 * z41)) (fun z136 => zlet (zm_modulo S (z72 - y81j)) (fun z146 => zlet (zm_modulo S a) (fun z153 => zlet (zm_modulo S (z48 - x57j)) (fun z161 => zlet (zm_modulo S c) (fun z169 => zlet (zm_modulo S ((z146 * z153) - (z161 * z169))) (fun z175 => zlet (zm_modulo S (z175 * z41)) (fun z183 => zlet (zm_isNear S pt) (fun z190 => (if z190 = 0 then (if z136 = 0 then zlet (zm_points S) (fun z213 => z213 - 1) else zlet (zm_inverse S z136) (fun z237 => zlet (zm_modulo S (z183 * z237)) (fun z242 => ((S 0 10) * (S 0 10)) + z242))) else ((S 0 10) * z136) + z183))))))))))))))))))))))))))
set_option maxRecDepth 100000 in
set_option maxHeartbeats 4000000 in
theorem zk_moved (l : Launch) {D : va_G} {cI cJ cZ cP cS cM : ClassId} {L : List Nat} {sz : Nat} {f : Nat → va_E} (o : Nat) (S : zS2) (pt : Int) (a : Int) (b : Int) (e : Int) (c : Int) (d : Int) (k : Int) (hI : mI S) (hpt : -2147483648 ≤ pt ∧ pt ≤ 2147483647) (ha : -2147483648 ≤ a ∧ a ≤ 2147483647) (hb : -2147483648 ≤ b ∧ b ≤ 2147483647) (he : -2147483648 ≤ e ∧ e ≤ 2147483647) (hc : -2147483648 ≤ c ∧ c ≤ 2147483647) (hd : -2147483648 ≤ d ∧ d ≤ 2147483647) (hk : -2147483648 ≤ k ∧ k ≤ 2147483647) : zMi l yX12_moved wsX12_moved 3 70 D (zT cI cJ cZ cP cS cM) L sz (zMO cI cJ o S f) [.ref o, .int (zI pt), .int (zI a), .int (zI b), .int (zI e), .int (zI c), .int (zI d), .int (zI k)] (fun zv gv => zv = zm_moved S pt a b e c d k ∧ gv = zMO cI cJ o S f ∧ True) := by
  refine zWalk.met (nL := 15) (ret := (some .int)) (cc := cX12_moved) (by decide) rfl (Nat.le_of_ble_eq_true rfl) ?_
  intro pg en st mi ag bl mt cd ls CX hW hl
  have CX : zC pg st mi ag mt cd cX12_moved 15 (some .int) RX12 wsX12_moved := CX
  generalize hQ : MQ bl _ ag st 0 0 _ = Q
  have hX0 := CX.1
  have hB0 := CX.2.1
  have hl : lv_has ls 15 [(0, .ref o), (1, .int (zI pt)), (2, .int (zI a)), (3, .int (zI b)), (4, .int (zI e)), (5, .int (zI c)), (6, .int (zI d)), (7, .int (zI k))] := hl
  obtain ⟨H, eH⟩ : ∃ H, H = st.heap := ⟨_, rfl⟩
  obtain ⟨locs, eL⟩ : ∃ L : List Loc, L = [] := ⟨_, rfl⟩
  have hW : zW D (zT cI cJ cZ cP cS cM) L (zQ L sz) st (zMO cI cJ o S f) st.heap H locs := by rw [eH, eL]; exact hW
  suffices hgo : W pg l en ({ frames := 3, cells := 0, slots := 0, locals := 70 } : Room) st mi ag bl mt cd H locs 0 0 Q (F0 mi 0 ls []) by rw [eH, eL] at hgo; exact hgo
  clear eH eL
  have hpb := hI.s10
  refine lv_aload_n hX0 hB0 dX12_moved_0 rfl (lv_at hl 0 rfl) ?_
  refine lv_iload_n hX0 hB0 dX12_moved_1 rfl (lv_at hl 1 rfl) ?_
  refine z_calli hW (va_runV (C := RX12) (As := [.int (zI pt)]) (rest := []) CX.fix (zk_isPoint l o S pt hI (by constructor <;> omega)) (cwV 1 CX.fix.2.2.2.2 gX12_moved_X12_isPoint rfl rfl rfl (by decide +kernel) ⟨Nat.le_of_ble_eq_true rfl, Nat.le_of_ble_eq_true rfl⟩) (z_preV CX hW (r := (RX12, TX12, 37)) zMO_0 rfl) rfl rfl hl.1 rfl (lv_room (Nat.le_of_ble_eq_true rfl)) dX12_moved_2 ⟨Nat.zero_le _, Nat.zero_le _⟩) (fun z2 gn H locs hok hW => ?_)
  obtain ⟨hz2, hg, hq2⟩ := hok
  rw [hg] at hW
  clear hg
  have e2 : zm_isPoint S pt = z2 := hz2.symm
  clear hz2
  refine z_if_eq (tgt := 21) CX dX12_moved_5 (by decide) (by constructor <;> omega) (fun c_5 => ?_) (fun c_5 => ?_)
  ·
    refine lv_iconst (v := zI (-1)) hX0 hB0 dX12_moved_21 rfl ?_
    have hE : zm_moved S pt a b e c d k = -1 := by unfold zm_moved; exact zlet_e e2 (zif_t c_5 rfl)
    rw [← hQ]
    exact z_iret (z := -1) CX hW (by rw [hE]; exact ⟨rfl, rfl, trivial⟩) rfl dX12_moved_22
  ·
    refine lv_aload_n hX0 hB0 dX12_moved_8 rfl (lv_at hl 0 rfl) ?_
    refine lv_iload_n hX0 hB0 dX12_moved_9 rfl (lv_at hl 2 rfl) ?_
    refine lv_iload_n hX0 hB0 dX12_moved_10 rfl (lv_at hl 3 rfl) ?_
    refine lv_iload hX0 hB0 dX12_moved_11 (lv_at hl 5 rfl) ?_
    refine lv_iload hX0 hB0 dX12_moved_13 (lv_at hl 6 rfl) ?_
    refine z_calli hW (va_runV (C := RX12) (As := [.int (zI a), .int (zI b), .int (zI c), .int (zI d)]) (rest := []) CX.fix (zk_canMove l o S a b c d hI (by constructor <;> omega) (by constructor <;> omega) (by constructor <;> omega) (by constructor <;> omega)) (cwV 4 CX.fix.2.2.2.2 gX12_moved_X12_canMove rfl rfl rfl (by decide +kernel) ⟨Nat.le_of_ble_eq_true rfl, Nat.le_of_ble_eq_true rfl⟩) (z_preV CX hW (r := (RX12, TX12, 37)) zMO_0 rfl) rfl rfl hl.1 rfl (lv_room (Nat.le_of_ble_eq_true rfl)) dX12_moved_15 ⟨Nat.zero_le _, Nat.zero_le _⟩) (fun z15 gn H locs hok hW => ?_)
    obtain ⟨hz15, hg, hq15⟩ := hok
    rw [hg] at hW
    clear hg
    have e15 : zm_canMove S a b c d = z15 := hz15.symm
    clear hz15
    refine z_if_ne (tgt := 23) CX dX12_moved_18 (by decide) (by constructor <;> omega) (fun c_18 => ?_) (fun c_18 => ?_)
    ·
      refine lv_aload_n hX0 hB0 dX12_moved_23 rfl (lv_at hl 0 rfl) ?_
      refine lv_aload_n hX0 hB0 dX12_moved_24 rfl (lv_at hl 0 rfl) ?_
      refine lv_iload_n hX0 hB0 dX12_moved_25 rfl (lv_at hl 2 rfl) ?_
      refine z_i2l CX dX12_moved_26 (by constructor <;> omega) ?_
      refine lv_iload hX0 hB0 dX12_moved_27 (lv_at hl 6 rfl) ?_
      refine z_i2l CX dX12_moved_29 (by constructor <;> omega) ?_
      refine z_lmul (z := a * d) CX dX12_moved_30 rfl ?_
      have hm30 := zbox_mul (a := a) (b := d) (A := 2147483648) (B := 2147483648) (by constructor <;> omega) (by constructor <;> omega) (C := 4611686018427387904) (by decide)
      refine lv_iload_n hX0 hB0 dX12_moved_31 rfl (lv_at hl 3 rfl) ?_
      refine z_i2l CX dX12_moved_32 (by constructor <;> omega) ?_
      refine lv_iload hX0 hB0 dX12_moved_33 (lv_at hl 5 rfl) ?_
      refine z_i2l CX dX12_moved_35 (by constructor <;> omega) ?_
      refine z_lmul (z := b * c) CX dX12_moved_36 rfl ?_
      have hm36 := zbox_mul (a := b) (b := c) (A := 2147483648) (B := 2147483648) (by constructor <;> omega) (by constructor <;> omega) (C := 4611686018427387904) (by decide)
      refine z_lsub (z := (a * d) - (b * c)) CX dX12_moved_37 rfl ?_
      have hx1 := zmul32 ha hd
      have hx2 := zmul32 hb hc
      refine z_calli hW (va_runV (C := RX12) (As := [.long (zL ((a * d) - (b * c)))]) (rest := [.ref o]) CX.fix (zk_modulo l o S ((a * d) - (b * c)) hI (by constructor <;> omega)) (cwV 1 CX.fix.2.2.2.2 gX12_moved_X12_modulo rfl rfl rfl (by decide +kernel) ⟨Nat.le_of_ble_eq_true rfl, Nat.le_of_ble_eq_true rfl⟩) (z_preV CX hW (r := (RX12, TX12, 37)) zMO_0 rfl) rfl rfl hl.1 rfl (lv_room (Nat.le_of_ble_eq_true rfl)) dX12_moved_38 ⟨Nat.zero_le _, Nat.zero_le _⟩) (fun z38 gn H locs hok hW => ?_)
      obtain ⟨hz38, hg, hq38⟩ := hok
      rw [hg] at hW
      clear hg
      have e38 : zm_modulo S ((a * d) - (b * c)) = z38 := hz38.symm
      clear hz38
      refine z_calli hW (va_runV (C := RX12) (As := [.int (zI z38)]) (rest := []) CX.fix (zk_inverse l o S z38 hI (by constructor <;> omega)) (cwV 1 CX.fix.2.2.2.2 gX12_moved_X12_inverse rfl rfl rfl (by decide +kernel) ⟨Nat.le_of_ble_eq_true rfl, Nat.le_of_ble_eq_true rfl⟩) (z_preV CX hW (r := (RX12, TX12, 37)) zMO_0 rfl) rfl rfl hl.1 rfl (lv_room (Nat.le_of_ble_eq_true rfl)) dX12_moved_41 ⟨Nat.zero_le _, Nat.zero_le _⟩) (fun z41 gn H locs hok hW => ?_)
      obtain ⟨hz41, hg, hq41⟩ := hok
      rw [hg] at hW
      clear hg
      have e41 : zm_inverse S z38 = z41 := hz41.symm
      clear hz41
      refine lv_istore (lv' := [(8, .int (zI z41)), (0, .ref o), (1, .int (zI pt)), (2, .int (zI a)), (3, .int (zI b)), (4, .int (zI e)), (5, .int (zI c)), (6, .int (zI d)), (7, .int (zI k))]) hX0 hB0 dX12_moved_44 hl (by decide) rfl (fun ls hl => ?_)
      refine lv_aload_n hX0 hB0 dX12_moved_46 rfl (lv_at hl 1 rfl) ?_
      refine lv_iload_n hX0 hB0 dX12_moved_47 rfl (lv_at hl 2 rfl) ?_
      refine z_calli hW (va_runV (C := RX12) (As := [.int (zI pt)]) (rest := []) CX.fix (zk_xOf l o S pt hI (by constructor <;> omega)) (cwV 1 CX.fix.2.2.2.2 gX12_moved_X12_xOf rfl rfl rfl (by decide +kernel) ⟨Nat.le_of_ble_eq_true rfl, Nat.le_of_ble_eq_true rfl⟩) (z_preV CX hW (r := (RX12, TX12, 37)) zMO_0 rfl) rfl rfl hl.1 rfl (lv_room (Nat.le_of_ble_eq_true rfl)) dX12_moved_48 ⟨Nat.zero_le _, Nat.zero_le _⟩) (fun z48 gn H locs hok hW => ?_)
      obtain ⟨hz48, hg, hq48⟩ := hok
      rw [hg] at hW
      clear hg
      have e48 : zm_xOf S pt = z48 := hz48.symm
      clear hz48
      refine z_i2l CX dX12_moved_51 (by constructor <;> omega) ?_
      refine lv_aload_n hX0 hB0 dX12_moved_52 rfl (lv_at hl 1 rfl) ?_
      refine lv_iload_n hX0 hB0 dX12_moved_53 rfl (lv_at hl 2 rfl) ?_
      refine z_calli hW (va_runV (C := RX12) (As := [.int (zI pt)]) (rest := [.long (zL z48)]) CX.fix (zk_isNear l o S pt hI (by constructor <;> omega)) (cwV 1 CX.fix.2.2.2.2 gX12_moved_X12_isNear rfl rfl rfl (by decide +kernel) ⟨Nat.le_of_ble_eq_true rfl, Nat.le_of_ble_eq_true rfl⟩) (z_preV CX hW (r := (RX12, TX12, 37)) zMO_0 rfl) rfl rfl hl.1 rfl (lv_room (Nat.le_of_ble_eq_true rfl)) dX12_moved_54 ⟨Nat.zero_le _, Nat.zero_le _⟩) (fun z54 gn H locs hok hW => ?_)
      obtain ⟨hz54, hg, hq54⟩ := hok
      rw [hg] at hW
      clear hg
      have e54 : zm_isNear S pt = z54 := hz54.symm
      clear hz54
      have hJ57 : ∀ (x57j : Int), (zm_moved_J57 e z54 = x57j ∧ -2147483648 ≤ x57j ∧ x57j ≤ 2147483647) → ∀ (H : Heap) (locs : List Loc) (ls : Array Slot), zW D (zT cI cJ cZ cP cS cM) L (zQ L sz) st (zMO cI cJ o S f) st.heap H locs → lv_has ls 15 [(8, .int (zI z41)), (0, .ref o), (1, .int (zI pt)), (2, .int (zI a)), (3, .int (zI b)), (4, .int (zI e)), (5, .int (zI c)), (6, .int (zI d)), (7, .int (zI k))] → W pg l en ({ frames := 3, cells := 0, slots := 0, locals := 70 } : Room) st mi ag bl mt cd H locs 0 0 Q (F0 mi 67 ls [.long (zL x57j), .long (zL z48)]) := by
        intro x57j hinv H locs ls hW hl
        obtain ⟨e57j, hax57j, hbx57j⟩ := hinv
        refine z_lsub (z := z48 - x57j) CX dX12_moved_67 rfl ?_
        refine lv_lstore (lv' := [(9, .long (zL (z48 - x57j))), (8, .int (zI z41)), (0, .ref o), (1, .int (zI pt)), (2, .int (zI a)), (3, .int (zI b)), (4, .int (zI e)), (5, .int (zI c)), (6, .int (zI d)), (7, .int (zI k))]) hX0 hB0 dX12_moved_68 hl (by decide) rfl (fun ls hl => ?_)
        refine lv_aload_n hX0 hB0 dX12_moved_70 rfl (lv_at hl 2 rfl) ?_
        refine lv_iload_n hX0 hB0 dX12_moved_71 rfl (lv_at hl 3 rfl) ?_
        refine z_calli hW (va_runV (C := RX12) (As := [.int (zI pt)]) (rest := []) CX.fix (zk_yOf l o S pt hI (by constructor <;> omega)) (cwV 1 CX.fix.2.2.2.2 gX12_moved_X12_yOf rfl rfl rfl (by decide +kernel) ⟨Nat.le_of_ble_eq_true rfl, Nat.le_of_ble_eq_true rfl⟩) (z_preV CX hW (r := (RX12, TX12, 37)) zMO_0 rfl) rfl rfl hl.1 rfl (lv_room (Nat.le_of_ble_eq_true rfl)) dX12_moved_72 ⟨Nat.zero_le _, Nat.zero_le _⟩) (fun z72 gn H locs hok hW => ?_)
        obtain ⟨hz72, hg, hq72⟩ := hok
        rw [hg] at hW
        clear hg
        have e72 : zm_yOf S pt = z72 := hz72.symm
        clear hz72
        refine z_i2l CX dX12_moved_75 (by constructor <;> omega) ?_
        refine lv_aload_n hX0 hB0 dX12_moved_76 rfl (lv_at hl 2 rfl) ?_
        refine lv_iload_n hX0 hB0 dX12_moved_77 rfl (lv_at hl 3 rfl) ?_
        refine z_calli hW (va_runV (C := RX12) (As := [.int (zI pt)]) (rest := [.long (zL z72)]) CX.fix (zk_isNear l o S pt hI (by constructor <;> omega)) (cwV 1 CX.fix.2.2.2.2 gX12_moved_X12_isNear rfl rfl rfl (by decide +kernel) ⟨Nat.le_of_ble_eq_true rfl, Nat.le_of_ble_eq_true rfl⟩) (z_preV CX hW (r := (RX12, TX12, 37)) zMO_0 rfl) rfl rfl hl.1 rfl (lv_room (Nat.le_of_ble_eq_true rfl)) dX12_moved_78 ⟨Nat.zero_le _, Nat.zero_le _⟩) (fun z78 gn H locs hok hW => ?_)
        obtain ⟨hz78, hg, hq78⟩ := hok
        rw [hg] at hW
        clear hg
        have e78 : zm_isNear S pt = z78 := hz78.symm
        clear hz78
        have hJ81 : ∀ (y81j : Int), (zm_moved_J81 k z78 = y81j ∧ -2147483648 ≤ y81j ∧ y81j ≤ 2147483647) → ∀ (H : Heap) (locs : List Loc) (ls : Array Slot), zW D (zT cI cJ cZ cP cS cM) L (zQ L sz) st (zMO cI cJ o S f) st.heap H locs → lv_has ls 15 [(9, .long (zL (z48 - x57j))), (8, .int (zI z41)), (0, .ref o), (1, .int (zI pt)), (2, .int (zI a)), (3, .int (zI b)), (4, .int (zI e)), (5, .int (zI c)), (6, .int (zI d)), (7, .int (zI k))] → W pg l en ({ frames := 3, cells := 0, slots := 0, locals := 70 } : Room) st mi ag bl mt cd H locs 0 0 Q (F0 mi 91 ls [.long (zL y81j), .long (zL z72)]) := by
          intro y81j hinv H locs ls hW hl
          obtain ⟨e81j, hay81j, hby81j⟩ := hinv
          refine z_lsub (z := z72 - y81j) CX dX12_moved_91 rfl ?_
          refine lv_lstore (lv' := [(11, .long (zL (z72 - y81j))), (9, .long (zL (z48 - x57j))), (8, .int (zI z41)), (0, .ref o), (1, .int (zI pt)), (2, .int (zI a)), (3, .int (zI b)), (4, .int (zI e)), (5, .int (zI c)), (6, .int (zI d)), (7, .int (zI k))]) hX0 hB0 dX12_moved_92 hl (by decide) rfl (fun ls hl => ?_)
          refine lv_aload_n hX0 hB0 dX12_moved_94 rfl (lv_at hl 3 rfl) ?_
          refine lv_aload_n hX0 hB0 dX12_moved_95 rfl (lv_at hl 3 rfl) ?_
          refine lv_aload_n hX0 hB0 dX12_moved_96 rfl (lv_at hl 3 rfl) ?_
          refine lv_lload hX0 hB0 dX12_moved_97 (lv_at hl 1 rfl) ?_
          refine z_calli hW (va_runV (C := RX12) (As := [.long (zL (z48 - x57j))]) (rest := [.ref o, .ref o]) CX.fix (zk_modulo l o S (z48 - x57j) hI (by constructor <;> omega)) (cwV 1 CX.fix.2.2.2.2 gX12_moved_X12_modulo rfl rfl rfl (by decide +kernel) ⟨Nat.le_of_ble_eq_true rfl, Nat.le_of_ble_eq_true rfl⟩) (z_preV CX hW (r := (RX12, TX12, 37)) zMO_0 rfl) rfl rfl hl.1 rfl (lv_room (Nat.le_of_ble_eq_true rfl)) dX12_moved_99 ⟨Nat.zero_le _, Nat.zero_le _⟩) (fun z99 gn H locs hok hW => ?_)
          obtain ⟨hz99, hg, hq99⟩ := hok
          rw [hg] at hW
          clear hg
          have e99 : zm_modulo S (z48 - x57j) = z99 := hz99.symm
          clear hz99
          refine z_i2l CX dX12_moved_102 (by constructor <;> omega) ?_
          refine lv_aload_n hX0 hB0 dX12_moved_103 rfl (lv_at hl 3 rfl) ?_
          refine lv_iload hX0 hB0 dX12_moved_104 (lv_at hl 9 rfl) ?_
          refine z_i2l CX dX12_moved_106 (by constructor <;> omega) ?_
          refine z_calli hW (va_runV (C := RX12) (As := [.long (zL d)]) (rest := [.long (zL z99), .ref o, .ref o]) CX.fix (zk_modulo l o S d hI (by constructor <;> omega)) (cwV 1 CX.fix.2.2.2.2 gX12_moved_X12_modulo rfl rfl rfl (by decide +kernel) ⟨Nat.le_of_ble_eq_true rfl, Nat.le_of_ble_eq_true rfl⟩) (z_preV CX hW (r := (RX12, TX12, 37)) zMO_0 rfl) rfl rfl hl.1 rfl (lv_room (Nat.le_of_ble_eq_true rfl)) dX12_moved_107 ⟨Nat.zero_le _, Nat.zero_le _⟩) (fun z107 gn H locs hok hW => ?_)
          obtain ⟨hz107, hg, hq107⟩ := hok
          rw [hg] at hW
          clear hg
          have e107 : zm_modulo S d = z107 := hz107.symm
          clear hz107
          refine z_i2l CX dX12_moved_110 (by constructor <;> omega) ?_
          refine z_lmul (z := z99 * z107) CX dX12_moved_111 rfl ?_
          have hm111 := zbox_mul0 (a := z99) (b := z107) (A := 30) (B := 30) (by constructor <;> omega) (by constructor <;> omega) (C := 900) (by decide)
          refine lv_aload_n hX0 hB0 dX12_moved_112 rfl (lv_at hl 3 rfl) ?_
          refine lv_lload hX0 hB0 dX12_moved_113 (lv_at hl 0 rfl) ?_
          refine z_calli hW (va_runV (C := RX12) (As := [.long (zL (z72 - y81j))]) (rest := [.long (zL (z99 * z107)), .ref o, .ref o]) CX.fix (zk_modulo l o S (z72 - y81j) hI (by constructor <;> omega)) (cwV 1 CX.fix.2.2.2.2 gX12_moved_X12_modulo rfl rfl rfl (by decide +kernel) ⟨Nat.le_of_ble_eq_true rfl, Nat.le_of_ble_eq_true rfl⟩) (z_preV CX hW (r := (RX12, TX12, 37)) zMO_0 rfl) rfl rfl hl.1 rfl (lv_room (Nat.le_of_ble_eq_true rfl)) dX12_moved_115 ⟨Nat.zero_le _, Nat.zero_le _⟩) (fun z115 gn H locs hok hW => ?_)
          obtain ⟨hz115, hg, hq115⟩ := hok
          rw [hg] at hW
          clear hg
          have e115 : zm_modulo S (z72 - y81j) = z115 := hz115.symm
          clear hz115
          refine z_i2l CX dX12_moved_118 (by constructor <;> omega) ?_
          refine lv_aload_n hX0 hB0 dX12_moved_119 rfl (lv_at hl 3 rfl) ?_
          refine lv_iload_n hX0 hB0 dX12_moved_120 rfl (lv_at hl 6 rfl) ?_
          refine z_i2l CX dX12_moved_121 (by constructor <;> omega) ?_
          refine z_calli hW (va_runV (C := RX12) (As := [.long (zL b)]) (rest := [.long (zL z115), .long (zL (z99 * z107)), .ref o, .ref o]) CX.fix (zk_modulo l o S b hI (by constructor <;> omega)) (cwV 1 CX.fix.2.2.2.2 gX12_moved_X12_modulo rfl rfl rfl (by decide +kernel) ⟨Nat.le_of_ble_eq_true rfl, Nat.le_of_ble_eq_true rfl⟩) (z_preV CX hW (r := (RX12, TX12, 37)) zMO_0 rfl) rfl rfl hl.1 rfl (lv_room (Nat.le_of_ble_eq_true rfl)) dX12_moved_122 ⟨Nat.zero_le _, Nat.zero_le _⟩) (fun z122 gn H locs hok hW => ?_)
          obtain ⟨hz122, hg, hq122⟩ := hok
          rw [hg] at hW
          clear hg
          have e122 : zm_modulo S b = z122 := hz122.symm
          clear hz122
          refine z_i2l CX dX12_moved_125 (by constructor <;> omega) ?_
          refine z_lmul (z := z115 * z122) CX dX12_moved_126 rfl ?_
          have hm126 := zbox_mul0 (a := z115) (b := z122) (A := 30) (B := 30) (by constructor <;> omega) (by constructor <;> omega) (C := 900) (by decide)
          refine z_lsub (z := (z99 * z107) - (z115 * z122)) CX dX12_moved_127 rfl ?_
          refine z_calli hW (va_runV (C := RX12) (As := [.long (zL ((z99 * z107) - (z115 * z122)))]) (rest := [.ref o]) CX.fix (zk_modulo l o S ((z99 * z107) - (z115 * z122)) hI (by constructor <;> omega)) (cwV 1 CX.fix.2.2.2.2 gX12_moved_X12_modulo rfl rfl rfl (by decide +kernel) ⟨Nat.le_of_ble_eq_true rfl, Nat.le_of_ble_eq_true rfl⟩) (z_preV CX hW (r := (RX12, TX12, 37)) zMO_0 rfl) rfl rfl hl.1 rfl (lv_room (Nat.le_of_ble_eq_true rfl)) dX12_moved_128 ⟨Nat.zero_le _, Nat.zero_le _⟩) (fun z128 gn H locs hok hW => ?_)
          obtain ⟨hz128, hg, hq128⟩ := hok
          rw [hg] at hW
          clear hg
          have e128 : zm_modulo S ((z99 * z107) - (z115 * z122)) = z128 := hz128.symm
          clear hz128
          refine z_i2l CX dX12_moved_131 (by constructor <;> omega) ?_
          refine lv_iload hX0 hB0 dX12_moved_132 (lv_at hl 2 rfl) ?_
          refine z_i2l CX dX12_moved_134 (by constructor <;> omega) ?_
          refine z_lmul (z := z128 * z41) CX dX12_moved_135 rfl ?_
          have hm135 := zbox_mul0 (a := z128) (b := z41) (A := 30) (B := 30) (by constructor <;> omega) (by constructor <;> omega) (C := 900) (by decide)
          refine z_calli hW (va_runV (C := RX12) (As := [.long (zL (z128 * z41))]) (rest := []) CX.fix (zk_modulo l o S (z128 * z41) hI (by constructor <;> omega)) (cwV 1 CX.fix.2.2.2.2 gX12_moved_X12_modulo rfl rfl rfl (by decide +kernel) ⟨Nat.le_of_ble_eq_true rfl, Nat.le_of_ble_eq_true rfl⟩) (z_preV CX hW (r := (RX12, TX12, 37)) zMO_0 rfl) rfl rfl hl.1 rfl (lv_room (Nat.le_of_ble_eq_true rfl)) dX12_moved_136 ⟨Nat.zero_le _, Nat.zero_le _⟩) (fun z136 gn H locs hok hW => ?_)
          obtain ⟨hz136, hg, hq136⟩ := hok
          rw [hg] at hW
          clear hg
          have e136 : zm_modulo S (z128 * z41) = z136 := hz136.symm
          clear hz136
          refine lv_istore (lv' := [(13, .int (zI z136)), (11, .long (zL (z72 - y81j))), (9, .long (zL (z48 - x57j))), (8, .int (zI z41)), (0, .ref o), (1, .int (zI pt)), (2, .int (zI a)), (3, .int (zI b)), (4, .int (zI e)), (5, .int (zI c)), (6, .int (zI d)), (7, .int (zI k))]) hX0 hB0 dX12_moved_139 hl (by decide) rfl (fun ls hl => ?_)
          refine lv_aload_n hX0 hB0 dX12_moved_141 rfl (lv_at hl 4 rfl) ?_
          refine lv_aload_n hX0 hB0 dX12_moved_142 rfl (lv_at hl 4 rfl) ?_
          refine lv_aload_n hX0 hB0 dX12_moved_143 rfl (lv_at hl 4 rfl) ?_
          refine lv_lload hX0 hB0 dX12_moved_144 (lv_at hl 1 rfl) ?_
          refine z_calli hW (va_runV (C := RX12) (As := [.long (zL (z72 - y81j))]) (rest := [.ref o, .ref o]) CX.fix (zk_modulo l o S (z72 - y81j) hI (by constructor <;> omega)) (cwV 1 CX.fix.2.2.2.2 gX12_moved_X12_modulo rfl rfl rfl (by decide +kernel) ⟨Nat.le_of_ble_eq_true rfl, Nat.le_of_ble_eq_true rfl⟩) (z_preV CX hW (r := (RX12, TX12, 37)) zMO_0 rfl) rfl rfl hl.1 rfl (lv_room (Nat.le_of_ble_eq_true rfl)) dX12_moved_146 ⟨Nat.zero_le _, Nat.zero_le _⟩) (fun z146 gn H locs hok hW => ?_)
          obtain ⟨hz146, hg, hq146⟩ := hok
          rw [hg] at hW
          clear hg
          have e146 : zm_modulo S (z72 - y81j) = z146 := hz146.symm
          clear hz146
          refine z_i2l CX dX12_moved_149 (by constructor <;> omega) ?_
          refine lv_aload_n hX0 hB0 dX12_moved_150 rfl (lv_at hl 4 rfl) ?_
          refine lv_iload_n hX0 hB0 dX12_moved_151 rfl (lv_at hl 6 rfl) ?_
          refine z_i2l CX dX12_moved_152 (by constructor <;> omega) ?_
          refine z_calli hW (va_runV (C := RX12) (As := [.long (zL a)]) (rest := [.long (zL z146), .ref o, .ref o]) CX.fix (zk_modulo l o S a hI (by constructor <;> omega)) (cwV 1 CX.fix.2.2.2.2 gX12_moved_X12_modulo rfl rfl rfl (by decide +kernel) ⟨Nat.le_of_ble_eq_true rfl, Nat.le_of_ble_eq_true rfl⟩) (z_preV CX hW (r := (RX12, TX12, 37)) zMO_0 rfl) rfl rfl hl.1 rfl (lv_room (Nat.le_of_ble_eq_true rfl)) dX12_moved_153 ⟨Nat.zero_le _, Nat.zero_le _⟩) (fun z153 gn H locs hok hW => ?_)
          obtain ⟨hz153, hg, hq153⟩ := hok
          rw [hg] at hW
          clear hg
          have e153 : zm_modulo S a = z153 := hz153.symm
          clear hz153
          refine z_i2l CX dX12_moved_156 (by constructor <;> omega) ?_
          refine z_lmul (z := z146 * z153) CX dX12_moved_157 rfl ?_
          have hm157 := zbox_mul0 (a := z146) (b := z153) (A := 30) (B := 30) (by constructor <;> omega) (by constructor <;> omega) (C := 900) (by decide)
          refine lv_aload_n hX0 hB0 dX12_moved_158 rfl (lv_at hl 4 rfl) ?_
          refine lv_lload hX0 hB0 dX12_moved_159 (lv_at hl 2 rfl) ?_
          refine z_calli hW (va_runV (C := RX12) (As := [.long (zL (z48 - x57j))]) (rest := [.long (zL (z146 * z153)), .ref o, .ref o]) CX.fix (zk_modulo l o S (z48 - x57j) hI (by constructor <;> omega)) (cwV 1 CX.fix.2.2.2.2 gX12_moved_X12_modulo rfl rfl rfl (by decide +kernel) ⟨Nat.le_of_ble_eq_true rfl, Nat.le_of_ble_eq_true rfl⟩) (z_preV CX hW (r := (RX12, TX12, 37)) zMO_0 rfl) rfl rfl hl.1 rfl (lv_room (Nat.le_of_ble_eq_true rfl)) dX12_moved_161 ⟨Nat.zero_le _, Nat.zero_le _⟩) (fun z161 gn H locs hok hW => ?_)
          obtain ⟨hz161, hg, hq161⟩ := hok
          rw [hg] at hW
          clear hg
          have e161 : zm_modulo S (z48 - x57j) = z161 := hz161.symm
          clear hz161
          refine z_i2l CX dX12_moved_164 (by constructor <;> omega) ?_
          refine lv_aload_n hX0 hB0 dX12_moved_165 rfl (lv_at hl 4 rfl) ?_
          refine lv_iload hX0 hB0 dX12_moved_166 (lv_at hl 9 rfl) ?_
          refine z_i2l CX dX12_moved_168 (by constructor <;> omega) ?_
          refine z_calli hW (va_runV (C := RX12) (As := [.long (zL c)]) (rest := [.long (zL z161), .long (zL (z146 * z153)), .ref o, .ref o]) CX.fix (zk_modulo l o S c hI (by constructor <;> omega)) (cwV 1 CX.fix.2.2.2.2 gX12_moved_X12_modulo rfl rfl rfl (by decide +kernel) ⟨Nat.le_of_ble_eq_true rfl, Nat.le_of_ble_eq_true rfl⟩) (z_preV CX hW (r := (RX12, TX12, 37)) zMO_0 rfl) rfl rfl hl.1 rfl (lv_room (Nat.le_of_ble_eq_true rfl)) dX12_moved_169 ⟨Nat.zero_le _, Nat.zero_le _⟩) (fun z169 gn H locs hok hW => ?_)
          obtain ⟨hz169, hg, hq169⟩ := hok
          rw [hg] at hW
          clear hg
          have e169 : zm_modulo S c = z169 := hz169.symm
          clear hz169
          refine z_i2l CX dX12_moved_172 (by constructor <;> omega) ?_
          refine z_lmul (z := z161 * z169) CX dX12_moved_173 rfl ?_
          have hm173 := zbox_mul0 (a := z161) (b := z169) (A := 30) (B := 30) (by constructor <;> omega) (by constructor <;> omega) (C := 900) (by decide)
          refine z_lsub (z := (z146 * z153) - (z161 * z169)) CX dX12_moved_174 rfl ?_
          refine z_calli hW (va_runV (C := RX12) (As := [.long (zL ((z146 * z153) - (z161 * z169)))]) (rest := [.ref o]) CX.fix (zk_modulo l o S ((z146 * z153) - (z161 * z169)) hI (by constructor <;> omega)) (cwV 1 CX.fix.2.2.2.2 gX12_moved_X12_modulo rfl rfl rfl (by decide +kernel) ⟨Nat.le_of_ble_eq_true rfl, Nat.le_of_ble_eq_true rfl⟩) (z_preV CX hW (r := (RX12, TX12, 37)) zMO_0 rfl) rfl rfl hl.1 rfl (lv_room (Nat.le_of_ble_eq_true rfl)) dX12_moved_175 ⟨Nat.zero_le _, Nat.zero_le _⟩) (fun z175 gn H locs hok hW => ?_)
          obtain ⟨hz175, hg, hq175⟩ := hok
          rw [hg] at hW
          clear hg
          have e175 : zm_modulo S ((z146 * z153) - (z161 * z169)) = z175 := hz175.symm
          clear hz175
          refine z_i2l CX dX12_moved_178 (by constructor <;> omega) ?_
          refine lv_iload hX0 hB0 dX12_moved_179 (lv_at hl 3 rfl) ?_
          refine z_i2l CX dX12_moved_181 (by constructor <;> omega) ?_
          refine z_lmul (z := z175 * z41) CX dX12_moved_182 rfl ?_
          have hm182 := zbox_mul0 (a := z175) (b := z41) (A := 30) (B := 30) (by constructor <;> omega) (by constructor <;> omega) (C := 900) (by decide)
          refine z_calli hW (va_runV (C := RX12) (As := [.long (zL (z175 * z41))]) (rest := []) CX.fix (zk_modulo l o S (z175 * z41) hI (by constructor <;> omega)) (cwV 1 CX.fix.2.2.2.2 gX12_moved_X12_modulo rfl rfl rfl (by decide +kernel) ⟨Nat.le_of_ble_eq_true rfl, Nat.le_of_ble_eq_true rfl⟩) (z_preV CX hW (r := (RX12, TX12, 37)) zMO_0 rfl) rfl rfl hl.1 rfl (lv_room (Nat.le_of_ble_eq_true rfl)) dX12_moved_183 ⟨Nat.zero_le _, Nat.zero_le _⟩) (fun z183 gn H locs hok hW => ?_)
          obtain ⟨hz183, hg, hq183⟩ := hok
          rw [hg] at hW
          clear hg
          have e183 : zm_modulo S (z175 * z41) = z183 := hz183.symm
          clear hz183
          refine lv_istore (lv' := [(14, .int (zI z183)), (13, .int (zI z136)), (11, .long (zL (z72 - y81j))), (9, .long (zL (z48 - x57j))), (8, .int (zI z41)), (0, .ref o), (1, .int (zI pt)), (2, .int (zI a)), (3, .int (zI b)), (4, .int (zI e)), (5, .int (zI c)), (6, .int (zI d)), (7, .int (zI k))]) hX0 hB0 dX12_moved_186 hl (by decide) rfl (fun ls hl => ?_)
          refine lv_aload_n hX0 hB0 dX12_moved_188 rfl (lv_at hl 5 rfl) ?_
          refine lv_iload_n hX0 hB0 dX12_moved_189 rfl (lv_at hl 6 rfl) ?_
          refine z_calli hW (va_runV (C := RX12) (As := [.int (zI pt)]) (rest := []) CX.fix (zk_isNear l o S pt hI (by constructor <;> omega)) (cwV 1 CX.fix.2.2.2.2 gX12_moved_X12_isNear rfl rfl rfl (by decide +kernel) ⟨Nat.le_of_ble_eq_true rfl, Nat.le_of_ble_eq_true rfl⟩) (z_preV CX hW (r := (RX12, TX12, 37)) zMO_0 rfl) rfl rfl hl.1 rfl (lv_room (Nat.le_of_ble_eq_true rfl)) dX12_moved_190 ⟨Nat.zero_le _, Nat.zero_le _⟩) (fun z190 gn H locs hok hW => ?_)
          obtain ⟨hz190, hg, hq190⟩ := hok
          rw [hg] at hW
          clear hg
          have e190 : zm_isNear S pt = z190 := hz190.symm
          clear hz190
          refine z_if_eq (tgt := 207) CX dX12_moved_193 (by decide) (by constructor <;> omega) (fun c_193 => ?_) (fun c_193 => ?_)
          ·
            refine lv_iload hX0 hB0 dX12_moved_207 (lv_at hl 1 rfl) ?_
            refine z_if_ne (tgt := 221) CX dX12_moved_209 (by decide) (by constructor <;> omega) (fun c_209 => ?_) (fun c_209 => ?_)
            ·
              refine lv_aload_n hX0 hB0 dX12_moved_221 rfl (lv_at hl 5 rfl) ?_
              refine z_get (Cn := RX12) (T := TX12) (N := 37) CX hW (v := .int (zI (S 0 10))) zMO_0 rfl (fun w h => List.mem_cons_of_mem _ (List.mem_append_right _ h)) 10 (by decide) (List.mem_of_getElem? (i := 1) rfl) rfl rfl dX12_moved_222 ?_
              have hr222 := hI.s10
              refine lv_aload_n hX0 hB0 dX12_moved_225 rfl (lv_at hl 5 rfl) ?_
              refine z_get (Cn := RX12) (T := TX12) (N := 37) CX hW (v := .int (zI (S 0 10))) zMO_0 rfl (fun w h => List.mem_cons_of_mem _ (List.mem_append_right _ h)) 10 (by decide) (List.mem_of_getElem? (i := 1) rfl) rfl rfl dX12_moved_226 ?_
              have hr226 := hI.s10
              refine z_imul (z := (S 0 10) * (S 0 10)) CX dX12_moved_229 rfl ?_
              have hm229 := zbox_mul0 (a := S 0 10) (b := S 0 10) (A := 31) (B := 31) (by constructor <;> omega) (by constructor <;> omega) (C := 961) (by decide)
              refine lv_aload_n hX0 hB0 dX12_moved_230 rfl (lv_at hl 5 rfl) ?_
              refine lv_iload hX0 hB0 dX12_moved_231 (lv_at hl 0 rfl) ?_
              refine z_i2l CX dX12_moved_233 (by constructor <;> omega) ?_
              refine lv_aload_n hX0 hB0 dX12_moved_234 rfl (lv_at hl 5 rfl) ?_
              refine lv_iload hX0 hB0 dX12_moved_235 (lv_at hl 1 rfl) ?_
              refine z_calli hW (va_runV (C := RX12) (As := [.int (zI z136)]) (rest := [.long (zL z183), .ref o, .int (zI ((S 0 10) * (S 0 10)))]) CX.fix (zk_inverse l o S z136 hI (by constructor <;> omega)) (cwV 1 CX.fix.2.2.2.2 gX12_moved_X12_inverse rfl rfl rfl (by decide +kernel) ⟨Nat.le_of_ble_eq_true rfl, Nat.le_of_ble_eq_true rfl⟩) (z_preV CX hW (r := (RX12, TX12, 37)) zMO_0 rfl) rfl rfl hl.1 rfl (lv_room (Nat.le_of_ble_eq_true rfl)) dX12_moved_237 ⟨Nat.zero_le _, Nat.zero_le _⟩) (fun z237 gn H locs hok hW => ?_)
              obtain ⟨hz237, hg, hq237⟩ := hok
              rw [hg] at hW
              clear hg
              have e237 : zm_inverse S z136 = z237 := hz237.symm
              clear hz237
              refine z_i2l CX dX12_moved_240 (by constructor <;> omega) ?_
              refine z_lmul (z := z183 * z237) CX dX12_moved_241 rfl ?_
              have hm241 := zbox_mul0 (a := z183) (b := z237) (A := 30) (B := 30) (by constructor <;> omega) (by constructor <;> omega) (C := 900) (by decide)
              refine z_calli hW (va_runV (C := RX12) (As := [.long (zL (z183 * z237))]) (rest := [.int (zI ((S 0 10) * (S 0 10)))]) CX.fix (zk_modulo l o S (z183 * z237) hI (by constructor <;> omega)) (cwV 1 CX.fix.2.2.2.2 gX12_moved_X12_modulo rfl rfl rfl (by decide +kernel) ⟨Nat.le_of_ble_eq_true rfl, Nat.le_of_ble_eq_true rfl⟩) (z_preV CX hW (r := (RX12, TX12, 37)) zMO_0 rfl) rfl rfl hl.1 rfl (lv_room (Nat.le_of_ble_eq_true rfl)) dX12_moved_242 ⟨Nat.zero_le _, Nat.zero_le _⟩) (fun z242 gn H locs hok hW => ?_)
              obtain ⟨hz242, hg, hq242⟩ := hok
              rw [hg] at hW
              clear hg
              have e242 : zm_modulo S (z183 * z237) = z242 := hz242.symm
              clear hz242
              refine z_iadd (z := ((S 0 10) * (S 0 10)) + z242) CX dX12_moved_245 rfl ?_
              have hE : zm_moved S pt a b e c d k = ((S 0 10) * (S 0 10)) + z242 := by unfold zm_moved; exact zlet_e e2 (zif_f c_5 (zlet_e e15 (zif_f c_18 (zlet_e e38 (zlet_e e41 (zlet_e e48 (zlet_e e54 (zlet_e e57j (zlet_e e72 (zlet_e e78 (zlet_e e81j (zlet_e e99 (zlet_e e107 (zlet_e e115 (zlet_e e122 (zlet_e e128 (zlet_e e136 (zlet_e e146 (zlet_e e153 (zlet_e e161 (zlet_e e169 (zlet_e e175 (zlet_e e183 (zlet_e e190 (zif_t c_193 (zif_f c_209 (zlet_e e237 (zlet_e e242 rfl))))))))))))))))))))))))))))
              rw [← hQ]
              exact z_iret (z := ((S 0 10) * (S 0 10)) + z242) CX hW (by rw [hE]; exact ⟨rfl, rfl, trivial⟩) rfl dX12_moved_246
            ·
              refine lv_aload_n hX0 hB0 dX12_moved_212 rfl (lv_at hl 5 rfl) ?_
              refine z_calli hW (va_runV (C := RX12) (As := []) (rest := []) CX.fix (zk_points l o S  hI ) (cwV 0 CX.fix.2.2.2.2 gX12_moved_X12_points rfl rfl rfl (by decide +kernel) ⟨Nat.le_of_ble_eq_true rfl, Nat.le_of_ble_eq_true rfl⟩) (z_preV CX hW (r := (RX12, TX12, 37)) zMO_0 rfl) rfl rfl hl.1 rfl (lv_room (Nat.le_of_ble_eq_true rfl)) dX12_moved_213 ⟨Nat.zero_le _, Nat.zero_le _⟩) (fun z213 gn H locs hok hW => ?_)
              obtain ⟨hz213, hg, hq213⟩ := hok
              rw [hg] at hW
              clear hg
              have e213 : zm_points S = z213 := hz213.symm
              clear hz213
              refine lv_iconst (v := zI 1) hX0 hB0 dX12_moved_216 rfl ?_
              refine z_isub (z := z213 - 1) CX dX12_moved_217 rfl ?_
              refine lv_goto (tgt := 246) hX0 hB0 dX12_moved_218 (by decide) ?_
              have hE : zm_moved S pt a b e c d k = z213 - 1 := by unfold zm_moved; exact zlet_e e2 (zif_f c_5 (zlet_e e15 (zif_f c_18 (zlet_e e38 (zlet_e e41 (zlet_e e48 (zlet_e e54 (zlet_e e57j (zlet_e e72 (zlet_e e78 (zlet_e e81j (zlet_e e99 (zlet_e e107 (zlet_e e115 (zlet_e e122 (zlet_e e128 (zlet_e e136 (zlet_e e146 (zlet_e e153 (zlet_e e161 (zlet_e e169 (zlet_e e175 (zlet_e e183 (zlet_e e190 (zif_t c_193 (zif_t c_209 (zlet_e e213 rfl)))))))))))))))))))))))))))
              rw [← hQ]
              exact z_iret (z := z213 - 1) CX hW (by rw [hE]; exact ⟨rfl, rfl, trivial⟩) rfl dX12_moved_246
          ·
            refine lv_aload_n hX0 hB0 dX12_moved_196 rfl (lv_at hl 5 rfl) ?_
            refine z_get (Cn := RX12) (T := TX12) (N := 37) CX hW (v := .int (zI (S 0 10))) zMO_0 rfl (fun w h => List.mem_cons_of_mem _ (List.mem_append_right _ h)) 10 (by decide) (List.mem_of_getElem? (i := 1) rfl) rfl rfl dX12_moved_197 ?_
            have hr197 := hI.s10
            refine lv_iload hX0 hB0 dX12_moved_200 (lv_at hl 1 rfl) ?_
            refine z_imul (z := (S 0 10) * z136) CX dX12_moved_202 rfl ?_
            have hm202 := zbox_mul0 (a := S 0 10) (b := z136) (A := 31) (B := 30) (by constructor <;> omega) (by constructor <;> omega) (C := 930) (by decide)
            refine lv_iload hX0 hB0 dX12_moved_203 (lv_at hl 0 rfl) ?_
            refine z_iadd (z := ((S 0 10) * z136) + z183) CX dX12_moved_205 rfl ?_
            have hE : zm_moved S pt a b e c d k = ((S 0 10) * z136) + z183 := by unfold zm_moved; exact zlet_e e2 (zif_f c_5 (zlet_e e15 (zif_f c_18 (zlet_e e38 (zlet_e e41 (zlet_e e48 (zlet_e e54 (zlet_e e57j (zlet_e e72 (zlet_e e78 (zlet_e e81j (zlet_e e99 (zlet_e e107 (zlet_e e115 (zlet_e e122 (zlet_e e128 (zlet_e e136 (zlet_e e146 (zlet_e e153 (zlet_e e161 (zlet_e e169 (zlet_e e175 (zlet_e e183 (zlet_e e190 (zif_f c_193 rfl)))))))))))))))))))))))))
            rw [← hQ]
            exact z_iret (z := ((S 0 10) * z136) + z183) CX hW (by rw [hE]; exact ⟨rfl, rfl, trivial⟩) rfl dX12_moved_206
        refine z_if_eq (tgt := 90) CX dX12_moved_81 (by decide) (by constructor <;> omega) (fun c_81 => ?_) (fun c_81 => ?_)
        ·
          refine lv_lconst (v := zL 0) hX0 hB0 dX12_moved_90 rfl ?_
          exact hJ81 0 ⟨(by unfold zm_moved_J81; exact zif_t c_81 rfl), by omega, by omega⟩ H locs ls hW (lv_sub hl [0, 1, 2, 3, 4, 5, 6, 7, 8, 9] rfl)
        ·
          refine lv_iload hX0 hB0 dX12_moved_84 (lv_at hl 9 rfl) ?_
          refine z_i2l CX dX12_moved_86 (by constructor <;> omega) ?_
          refine lv_goto (tgt := 91) hX0 hB0 dX12_moved_87 (by decide) ?_
          exact hJ81 k ⟨(by unfold zm_moved_J81; exact zif_f c_81 rfl), by omega, by omega⟩ H locs ls hW (lv_sub hl [0, 1, 2, 3, 4, 5, 6, 7, 8, 9] rfl)
      refine z_if_eq (tgt := 66) CX dX12_moved_57 (by decide) (by constructor <;> omega) (fun c_57 => ?_) (fun c_57 => ?_)
      ·
        refine lv_lconst (v := zL 0) hX0 hB0 dX12_moved_66 rfl ?_
        exact hJ57 0 ⟨(by unfold zm_moved_J57; exact zif_t c_57 rfl), by omega, by omega⟩ H locs ls hW (lv_sub hl [0, 1, 2, 3, 4, 5, 6, 7, 8] rfl)
      ·
        refine lv_iload hX0 hB0 dX12_moved_60 (lv_at hl 5 rfl) ?_
        refine z_i2l CX dX12_moved_62 (by constructor <;> omega) ?_
        refine lv_goto (tgt := 67) hX0 hB0 dX12_moved_63 (by decide) ?_
        exact hJ57 e ⟨(by unfold zm_moved_J57; exact zif_f c_57 rfl), by omega, by omega⟩ H locs ls hW (lv_sub hl [0, 1, 2, 3, 4, 5, 6, 7, 8] rfl)
    ·
      refine lv_iconst (v := zI (-1)) hX0 hB0 dX12_moved_21 rfl ?_
      have hE : zm_moved S pt a b e c d k = -1 := by unfold zm_moved; exact zlet_e e2 (zif_f c_5 (zlet_e e15 (zif_t c_18 rfl)))
      rw [← hQ]
      exact z_iret (z := -1) CX hW (by rw [hE]; exact ⟨rfl, rfl, trivial⟩) rfl dX12_moved_22
def zm_isLine_J49 (S37 : zS2) (z46 : Int) : Int := (if z46 = 0 then zlet (zm_cell S37 144 0 1) (fun z70 => z70) else zlet (zm_cell S37 144 1 0) (fun z58 => z58))
def zm_isLine (S : zS2) (x : Int) (y : Int) (z : Int) : Int × zS2 := zlet (zm_empties S 144) (fun S4 => zlet (zm_sets S4 144 1 0 x) (fun S15 => zlet (zm_sets S15 144 0 1 y) (fun S26 => zlet (zm_sets S26 144 0 0 z) (fun S37 => zlet (zm_cell S37 144 1 0) (fun z46 => zlet (zm_isLine_J49 S37 z46) (fun h49j => (if h49j = 0 then (0, S37) else zlet (zm_inverse S37 h49j) (fun z85 => zlet (zm_sets S37 144 1 0 (x * z85)) (fun S102 => zlet (zm_sets S102 144 0 1 (y * z85)) (fun S117 => zlet (zm_sets S117 144 0 0 (z * z85)) (fun S132 => (1, S132))))))))))))
set_option maxRecDepth 100000 in
set_option maxHeartbeats 4000000 in
theorem zk_isLine (l : Launch) {D : va_G} {cI cJ cZ cP cS cM : ClassId} {L : List Nat} {sz : Nat} {f : Nat → va_E} (o : Nat) (S : zS2) (x : Int) (y : Int) (z : Int) (hI : mI S) (hx : -1000 ≤ x ∧ x ≤ 1000) (hy : -1000 ≤ y ∧ y ≤ 1000) (hz : -1000 ≤ z ∧ z ≤ 1000) : zMi l yX12_isLine wsX12_isLine 3 70 D (zT cI cJ cZ cP cS cM) L sz (zMO cI cJ o S f) [.ref o, .int (zI x), .int (zI y), .int (zI z)] (fun zv gv => zv = (zm_isLine S x y z).1 ∧ gv = zMO cI cJ o (zm_isLine S x y z).2 f ∧ mI (zm_isLine S x y z).2 ∧ (∀ kk ii : Nat, ¬ (kk = 3 ∧ 3500 ≤ (ii : Int)) → (zm_isLine S x y z).2 kk ii = S kk ii) ∧ 0 ≤ zv ∧ zv ≤ 1) := by
  refine zWalk.met (nL := 6) (ret := (some .boolean)) (cc := cX12_isLine) (by decide) rfl (Nat.le_of_ble_eq_true rfl) ?_
  intro pg en st mi ag bl mt cd ls CX hW hl
  have CX : zC pg st mi ag mt cd cX12_isLine 6 (some .boolean) RX12 wsX12_isLine := CX
  generalize hQ : MQ bl _ ag st 0 0 _ = Q
  have hX0 := CX.1
  have hB0 := CX.2.1
  have hl : lv_has ls 6 [(0, .ref o), (1, .int (zI x)), (2, .int (zI y)), (3, .int (zI z))] := hl
  obtain ⟨H, eH⟩ : ∃ H, H = st.heap := ⟨_, rfl⟩
  obtain ⟨locs, eL⟩ : ∃ L : List Loc, L = [] := ⟨_, rfl⟩
  have hW : zW D (zT cI cJ cZ cP cS cM) L (zQ L sz) st (zMO cI cJ o S f) st.heap H locs := by rw [eH, eL]; exact hW
  suffices hgo : W pg l en ({ frames := 3, cells := 0, slots := 0, locals := 70 } : Room) st mi ag bl mt cd H locs 0 0 Q (F0 mi 0 ls []) by rw [eH, eL] at hgo; exact hgo
  clear eH eL
  have hpb := hI.s10
  refine lv_aload_n hX0 hB0 dX12_isLine_0 rfl (lv_at hl 0 rfl) ?_
  refine lv_sipush (v := zI 144) hX0 hB0 dX12_isLine_1 (by decide) ?_
  refine z_callv hW (va_runV (C := RX12) (As := [.int (zI 144)]) (rest := []) CX.fix (zk_empties l o S 144 hI (by constructor <;> omega)) (cwV 1 CX.fix.2.2.2.2 gX12_isLine_X12_empties rfl rfl rfl (by decide +kernel) ⟨Nat.le_of_ble_eq_true rfl, Nat.le_of_ble_eq_true rfl⟩) (z_preV CX hW (r := (RX12, TX12, 37)) zMO_0 rfl) rfl rfl hl.1 rfl (lv_room (Nat.le_of_ble_eq_true rfl)) dX12_isLine_4 ⟨Nat.zero_le _, Nat.zero_le _⟩) (fun gn H locs hok hW => ?_)
  obtain ⟨hg, hI4, hf4, hq4⟩ := hok
  obtain ⟨S4, e4⟩ : ∃ q, zm_empties S 144 = q := ⟨_, rfl⟩
  rw [e4] at hg hI4 hf4
  have t4_10 : S4 0 10 = S 0 10 := hf4 0 10 (by omega)
  skip
  try rw [e4] at hq4
  rw [hg] at hW
  clear hg
  refine lv_aload_n hX0 hB0 dX12_isLine_7 rfl (lv_at hl 0 rfl) ?_
  refine lv_sipush (v := zI 144) hX0 hB0 dX12_isLine_8 (by decide) ?_
  refine lv_iconst (v := zI 1) hX0 hB0 dX12_isLine_11 rfl ?_
  refine lv_iconst (v := zI 0) hX0 hB0 dX12_isLine_12 rfl ?_
  refine lv_iload_n hX0 hB0 dX12_isLine_13 rfl (lv_at hl 1 rfl) ?_
  refine z_i2l CX dX12_isLine_14 (by constructor <;> omega) ?_
  refine z_callv hW (va_runV (C := RX12) (As := [.int (zI 144), .int (zI 1), .int (zI 0), .long (zL x)]) (rest := []) CX.fix (zk_sets l o S4 144 1 0 x hI4 (by constructor <;> omega) (by constructor <;> omega) (by constructor <;> omega) (by constructor <;> omega)) (cwV 4 CX.fix.2.2.2.2 gX12_isLine_X12_sets rfl rfl rfl (by decide +kernel) ⟨Nat.le_of_ble_eq_true rfl, Nat.le_of_ble_eq_true rfl⟩) (z_preV CX hW (r := (RX12, TX12, 37)) zMO_0 rfl) rfl rfl hl.1 rfl (lv_room (Nat.le_of_ble_eq_true rfl)) dX12_isLine_15 ⟨Nat.zero_le _, Nat.zero_le _⟩) (fun gn H locs hok hW => ?_)
  obtain ⟨hg, hI15, hf15, hq15⟩ := hok
  obtain ⟨S15, e15⟩ : ∃ q, zm_sets S4 144 1 0 x = q := ⟨_, rfl⟩
  rw [e15] at hg hI15 hf15
  have t15_10 : S15 0 10 = S4 0 10 := hf15 0 10 (by omega)
  skip
  try rw [e15] at hq15
  rw [hg] at hW
  clear hg
  refine lv_aload_n hX0 hB0 dX12_isLine_18 rfl (lv_at hl 0 rfl) ?_
  refine lv_sipush (v := zI 144) hX0 hB0 dX12_isLine_19 (by decide) ?_
  refine lv_iconst (v := zI 0) hX0 hB0 dX12_isLine_22 rfl ?_
  refine lv_iconst (v := zI 1) hX0 hB0 dX12_isLine_23 rfl ?_
  refine lv_iload_n hX0 hB0 dX12_isLine_24 rfl (lv_at hl 2 rfl) ?_
  refine z_i2l CX dX12_isLine_25 (by constructor <;> omega) ?_
  refine z_callv hW (va_runV (C := RX12) (As := [.int (zI 144), .int (zI 0), .int (zI 1), .long (zL y)]) (rest := []) CX.fix (zk_sets l o S15 144 0 1 y hI15 (by constructor <;> omega) (by constructor <;> omega) (by constructor <;> omega) (by constructor <;> omega)) (cwV 4 CX.fix.2.2.2.2 gX12_isLine_X12_sets rfl rfl rfl (by decide +kernel) ⟨Nat.le_of_ble_eq_true rfl, Nat.le_of_ble_eq_true rfl⟩) (z_preV CX hW (r := (RX12, TX12, 37)) zMO_0 rfl) rfl rfl hl.1 rfl (lv_room (Nat.le_of_ble_eq_true rfl)) dX12_isLine_26 ⟨Nat.zero_le _, Nat.zero_le _⟩) (fun gn H locs hok hW => ?_)
  obtain ⟨hg, hI26, hf26, hq26⟩ := hok
  obtain ⟨S26, e26⟩ : ∃ q, zm_sets S15 144 0 1 y = q := ⟨_, rfl⟩
  rw [e26] at hg hI26 hf26
  have t26_10 : S26 0 10 = S15 0 10 := hf26 0 10 (by omega)
  skip
  try rw [e26] at hq26
  rw [hg] at hW
  clear hg
  refine lv_aload_n hX0 hB0 dX12_isLine_29 rfl (lv_at hl 0 rfl) ?_
  refine lv_sipush (v := zI 144) hX0 hB0 dX12_isLine_30 (by decide) ?_
  refine lv_iconst (v := zI 0) hX0 hB0 dX12_isLine_33 rfl ?_
  refine lv_iconst (v := zI 0) hX0 hB0 dX12_isLine_34 rfl ?_
  refine lv_iload_n hX0 hB0 dX12_isLine_35 rfl (lv_at hl 3 rfl) ?_
  refine z_i2l CX dX12_isLine_36 (by constructor <;> omega) ?_
  refine z_callv hW (va_runV (C := RX12) (As := [.int (zI 144), .int (zI 0), .int (zI 0), .long (zL z)]) (rest := []) CX.fix (zk_sets l o S26 144 0 0 z hI26 (by constructor <;> omega) (by constructor <;> omega) (by constructor <;> omega) (by constructor <;> omega)) (cwV 4 CX.fix.2.2.2.2 gX12_isLine_X12_sets rfl rfl rfl (by decide +kernel) ⟨Nat.le_of_ble_eq_true rfl, Nat.le_of_ble_eq_true rfl⟩) (z_preV CX hW (r := (RX12, TX12, 37)) zMO_0 rfl) rfl rfl hl.1 rfl (lv_room (Nat.le_of_ble_eq_true rfl)) dX12_isLine_37 ⟨Nat.zero_le _, Nat.zero_le _⟩) (fun gn H locs hok hW => ?_)
  obtain ⟨hg, hI37, hf37, hq37⟩ := hok
  obtain ⟨S37, e37⟩ : ∃ q, zm_sets S26 144 0 0 z = q := ⟨_, rfl⟩
  rw [e37] at hg hI37 hf37
  have t37_10 : S37 0 10 = S26 0 10 := hf37 0 10 (by omega)
  skip
  try rw [e37] at hq37
  rw [hg] at hW
  clear hg
  refine lv_aload_n hX0 hB0 dX12_isLine_40 rfl (lv_at hl 0 rfl) ?_
  refine lv_sipush (v := zI 144) hX0 hB0 dX12_isLine_41 (by decide) ?_
  refine lv_iconst (v := zI 1) hX0 hB0 dX12_isLine_44 rfl ?_
  refine lv_iconst (v := zI 0) hX0 hB0 dX12_isLine_45 rfl ?_
  refine z_calli hW (va_runV (C := RX12) (As := [.int (zI 144), .int (zI 1), .int (zI 0)]) (rest := []) CX.fix (zk_cell l o S37 144 1 0 hI37 (by constructor <;> omega) (by constructor <;> omega) (by constructor <;> omega)) (cwV 3 CX.fix.2.2.2.2 gX12_isLine_X12_cell rfl rfl rfl (by decide +kernel) ⟨Nat.le_of_ble_eq_true rfl, Nat.le_of_ble_eq_true rfl⟩) (z_preV CX hW (r := (RX12, TX12, 37)) zMO_0 rfl) rfl rfl hl.1 rfl (lv_room (Nat.le_of_ble_eq_true rfl)) dX12_isLine_46 ⟨Nat.zero_le _, Nat.zero_le _⟩) (fun z46 gn H locs hok hW => ?_)
  obtain ⟨hz46, hg, hq46⟩ := hok
  rw [hg] at hW
  clear hg
  have e46 : zm_cell S37 144 1 0 = z46 := hz46.symm
  clear hz46
  have hJ49 : ∀ (h49j : Int), (zm_isLine_J49 S37 z46 = h49j ∧ 0 ≤ h49j ∧ h49j ≤ 30) → ∀ (H : Heap) (locs : List Loc) (ls : Array Slot), zW D (zT cI cJ cZ cP cS cM) L (zQ L sz) st (zMO cI cJ o S37 f) st.heap H locs → lv_has ls 6 [(0, .ref o), (1, .int (zI x)), (2, .int (zI y)), (3, .int (zI z))] → W pg l en ({ frames := 3, cells := 0, slots := 0, locals := 70 } : Room) st mi ag bl mt cd H locs 0 0 Q (F0 mi 73 ls [.int (zI h49j)]) := by
    intro h49j hinv H locs ls hW hl
    obtain ⟨e49j, hah49j, hbh49j⟩ := hinv
    refine lv_istore (lv' := [(4, .int (zI h49j)), (0, .ref o), (1, .int (zI x)), (2, .int (zI y)), (3, .int (zI z))]) hX0 hB0 dX12_isLine_73 hl (by decide) rfl (fun ls hl => ?_)
    refine lv_iload hX0 hB0 dX12_isLine_75 (lv_at hl 0 rfl) ?_
    refine z_if_ne (tgt := 82) CX dX12_isLine_77 (by decide) (by constructor <;> omega) (fun c_77 => ?_) (fun c_77 => ?_)
    ·
      refine lv_aload_n hX0 hB0 dX12_isLine_82 rfl (lv_at hl 1 rfl) ?_
      refine lv_iload hX0 hB0 dX12_isLine_83 (lv_at hl 0 rfl) ?_
      refine z_calli hW (va_runV (C := RX12) (As := [.int (zI h49j)]) (rest := []) CX.fix (zk_inverse l o S37 h49j hI37 (by constructor <;> omega)) (cwV 1 CX.fix.2.2.2.2 gX12_isLine_X12_inverse rfl rfl rfl (by decide +kernel) ⟨Nat.le_of_ble_eq_true rfl, Nat.le_of_ble_eq_true rfl⟩) (z_preV CX hW (r := (RX12, TX12, 37)) zMO_0 rfl) rfl rfl hl.1 rfl (lv_room (Nat.le_of_ble_eq_true rfl)) dX12_isLine_85 ⟨Nat.zero_le _, Nat.zero_le _⟩) (fun z85 gn H locs hok hW => ?_)
      obtain ⟨hz85, hg, hq85⟩ := hok
      rw [hg] at hW
      clear hg
      have e85 : zm_inverse S37 h49j = z85 := hz85.symm
      clear hz85
      refine lv_istore (lv' := [(5, .int (zI z85)), (4, .int (zI h49j)), (0, .ref o), (1, .int (zI x)), (2, .int (zI y)), (3, .int (zI z))]) hX0 hB0 dX12_isLine_88 hl (by decide) rfl (fun ls hl => ?_)
      refine lv_aload_n hX0 hB0 dX12_isLine_90 rfl (lv_at hl 2 rfl) ?_
      refine lv_sipush (v := zI 144) hX0 hB0 dX12_isLine_91 (by decide) ?_
      refine lv_iconst (v := zI 1) hX0 hB0 dX12_isLine_94 rfl ?_
      refine lv_iconst (v := zI 0) hX0 hB0 dX12_isLine_95 rfl ?_
      refine lv_iload_n hX0 hB0 dX12_isLine_96 rfl (lv_at hl 3 rfl) ?_
      refine z_i2l CX dX12_isLine_97 (by constructor <;> omega) ?_
      refine lv_iload hX0 hB0 dX12_isLine_98 (lv_at hl 0 rfl) ?_
      refine z_i2l CX dX12_isLine_100 (by constructor <;> omega) ?_
      refine z_lmul (z := x * z85) CX dX12_isLine_101 rfl ?_
      have hm101 := zbox_mul (a := x) (b := z85) (A := 1000) (B := 30) (by constructor <;> omega) (by constructor <;> omega) (C := 30000) (by decide)
      refine z_callv hW (va_runV (C := RX12) (As := [.int (zI 144), .int (zI 1), .int (zI 0), .long (zL (x * z85))]) (rest := []) CX.fix (zk_sets l o S37 144 1 0 (x * z85) hI37 (by constructor <;> omega) (by constructor <;> omega) (by constructor <;> omega) (by constructor <;> omega)) (cwV 4 CX.fix.2.2.2.2 gX12_isLine_X12_sets rfl rfl rfl (by decide +kernel) ⟨Nat.le_of_ble_eq_true rfl, Nat.le_of_ble_eq_true rfl⟩) (z_preV CX hW (r := (RX12, TX12, 37)) zMO_0 rfl) rfl rfl hl.1 rfl (lv_room (Nat.le_of_ble_eq_true rfl)) dX12_isLine_102 ⟨Nat.zero_le _, Nat.zero_le _⟩) (fun gn H locs hok hW => ?_)
      obtain ⟨hg, hI102, hf102, hq102⟩ := hok
      obtain ⟨S102, e102⟩ : ∃ q, zm_sets S37 144 1 0 (x * z85) = q := ⟨_, rfl⟩
      rw [e102] at hg hI102 hf102
      have t102_10 : S102 0 10 = S37 0 10 := hf102 0 10 (by omega)
      skip
      try rw [e102] at hq102
      rw [hg] at hW
      clear hg
      refine lv_aload_n hX0 hB0 dX12_isLine_105 rfl (lv_at hl 2 rfl) ?_
      refine lv_sipush (v := zI 144) hX0 hB0 dX12_isLine_106 (by decide) ?_
      refine lv_iconst (v := zI 0) hX0 hB0 dX12_isLine_109 rfl ?_
      refine lv_iconst (v := zI 1) hX0 hB0 dX12_isLine_110 rfl ?_
      refine lv_iload_n hX0 hB0 dX12_isLine_111 rfl (lv_at hl 4 rfl) ?_
      refine z_i2l CX dX12_isLine_112 (by constructor <;> omega) ?_
      refine lv_iload hX0 hB0 dX12_isLine_113 (lv_at hl 0 rfl) ?_
      refine z_i2l CX dX12_isLine_115 (by constructor <;> omega) ?_
      refine z_lmul (z := y * z85) CX dX12_isLine_116 rfl ?_
      have hm116 := zbox_mul (a := y) (b := z85) (A := 1000) (B := 30) (by constructor <;> omega) (by constructor <;> omega) (C := 30000) (by decide)
      refine z_callv hW (va_runV (C := RX12) (As := [.int (zI 144), .int (zI 0), .int (zI 1), .long (zL (y * z85))]) (rest := []) CX.fix (zk_sets l o S102 144 0 1 (y * z85) hI102 (by constructor <;> omega) (by constructor <;> omega) (by constructor <;> omega) (by constructor <;> omega)) (cwV 4 CX.fix.2.2.2.2 gX12_isLine_X12_sets rfl rfl rfl (by decide +kernel) ⟨Nat.le_of_ble_eq_true rfl, Nat.le_of_ble_eq_true rfl⟩) (z_preV CX hW (r := (RX12, TX12, 37)) zMO_0 rfl) rfl rfl hl.1 rfl (lv_room (Nat.le_of_ble_eq_true rfl)) dX12_isLine_117 ⟨Nat.zero_le _, Nat.zero_le _⟩) (fun gn H locs hok hW => ?_)
      obtain ⟨hg, hI117, hf117, hq117⟩ := hok
      obtain ⟨S117, e117⟩ : ∃ q, zm_sets S102 144 0 1 (y * z85) = q := ⟨_, rfl⟩
      rw [e117] at hg hI117 hf117
      have t117_10 : S117 0 10 = S102 0 10 := hf117 0 10 (by omega)
      skip
      try rw [e117] at hq117
      rw [hg] at hW
      clear hg
      refine lv_aload_n hX0 hB0 dX12_isLine_120 rfl (lv_at hl 2 rfl) ?_
      refine lv_sipush (v := zI 144) hX0 hB0 dX12_isLine_121 (by decide) ?_
      refine lv_iconst (v := zI 0) hX0 hB0 dX12_isLine_124 rfl ?_
      refine lv_iconst (v := zI 0) hX0 hB0 dX12_isLine_125 rfl ?_
      refine lv_iload_n hX0 hB0 dX12_isLine_126 rfl (lv_at hl 5 rfl) ?_
      refine z_i2l CX dX12_isLine_127 (by constructor <;> omega) ?_
      refine lv_iload hX0 hB0 dX12_isLine_128 (lv_at hl 0 rfl) ?_
      refine z_i2l CX dX12_isLine_130 (by constructor <;> omega) ?_
      refine z_lmul (z := z * z85) CX dX12_isLine_131 rfl ?_
      have hm131 := zbox_mul (a := z) (b := z85) (A := 1000) (B := 30) (by constructor <;> omega) (by constructor <;> omega) (C := 30000) (by decide)
      refine z_callv hW (va_runV (C := RX12) (As := [.int (zI 144), .int (zI 0), .int (zI 0), .long (zL (z * z85))]) (rest := []) CX.fix (zk_sets l o S117 144 0 0 (z * z85) hI117 (by constructor <;> omega) (by constructor <;> omega) (by constructor <;> omega) (by constructor <;> omega)) (cwV 4 CX.fix.2.2.2.2 gX12_isLine_X12_sets rfl rfl rfl (by decide +kernel) ⟨Nat.le_of_ble_eq_true rfl, Nat.le_of_ble_eq_true rfl⟩) (z_preV CX hW (r := (RX12, TX12, 37)) zMO_0 rfl) rfl rfl hl.1 rfl (lv_room (Nat.le_of_ble_eq_true rfl)) dX12_isLine_132 ⟨Nat.zero_le _, Nat.zero_le _⟩) (fun gn H locs hok hW => ?_)
      obtain ⟨hg, hI132, hf132, hq132⟩ := hok
      obtain ⟨S132, e132⟩ : ∃ q, zm_sets S117 144 0 0 (z * z85) = q := ⟨_, rfl⟩
      rw [e132] at hg hI132 hf132
      have t132_10 : S132 0 10 = S117 0 10 := hf132 0 10 (by omega)
      skip
      try rw [e132] at hq132
      rw [hg] at hW
      clear hg
      refine lv_iconst (v := zI 1) hX0 hB0 dX12_isLine_135 rfl ?_
      have hE : zm_isLine S x y z = (1, S132) := by unfold zm_isLine; exact zlet_e e4 (zlet_e e15 (zlet_e e26 (zlet_e e37 (zlet_e e46 (zlet_e e49j (zif_f c_77 (zlet_e e85 (zlet_e e102 (zlet_e e117 (zlet_e e132 rfl))))))))))
      have hFr : ∀ kk ii : Nat, ¬ (kk = 3 ∧ 3500 ≤ (ii : Int)) → S132 kk ii = S kk ii := fun kk ii hk => (((((((hf132 kk ii (by omega))).trans (hf117 kk ii (by omega))).trans (hf102 kk ii (by omega))).trans (hf37 kk ii (by omega))).trans (hf26 kk ii (by omega))).trans (hf15 kk ii (by omega))).trans (hf4 kk ii (by omega))
      rw [← hQ]
      exact z_iret (z := 1) CX hW (by rw [hE]; exact ⟨rfl, rfl, hI132, hFr, (show 0 ≤ (1 : Int) ∧ (1 : Int) ≤ 1 from by omega)⟩) rfl dX12_isLine_136
    ·
      refine lv_iconst (v := zI 0) hX0 hB0 dX12_isLine_80 rfl ?_
      have hE : zm_isLine S x y z = (0, S37) := by unfold zm_isLine; exact zlet_e e4 (zlet_e e15 (zlet_e e26 (zlet_e e37 (zlet_e e46 (zlet_e e49j (zif_t c_77 rfl))))))
      have hFr : ∀ kk ii : Nat, ¬ (kk = 3 ∧ 3500 ≤ (ii : Int)) → S37 kk ii = S kk ii := fun kk ii hk => ((((hf37 kk ii (by omega))).trans (hf26 kk ii (by omega))).trans (hf15 kk ii (by omega))).trans (hf4 kk ii (by omega))
      rw [← hQ]
      exact z_iret (z := 0) CX hW (by rw [hE]; exact ⟨rfl, rfl, hI37, hFr, (show 0 ≤ (0 : Int) ∧ (0 : Int) ≤ 1 from by omega)⟩) rfl dX12_isLine_81
  refine z_if_eq (tgt := 64) CX dX12_isLine_49 (by decide) (by constructor <;> omega) (fun c_49 => ?_) (fun c_49 => ?_)
  ·
    refine lv_aload_n hX0 hB0 dX12_isLine_64 rfl (lv_at hl 0 rfl) ?_
    refine lv_sipush (v := zI 144) hX0 hB0 dX12_isLine_65 (by decide) ?_
    refine lv_iconst (v := zI 0) hX0 hB0 dX12_isLine_68 rfl ?_
    refine lv_iconst (v := zI 1) hX0 hB0 dX12_isLine_69 rfl ?_
    refine z_calli hW (va_runV (C := RX12) (As := [.int (zI 144), .int (zI 0), .int (zI 1)]) (rest := []) CX.fix (zk_cell l o S37 144 0 1 hI37 (by constructor <;> omega) (by constructor <;> omega) (by constructor <;> omega)) (cwV 3 CX.fix.2.2.2.2 gX12_isLine_X12_cell rfl rfl rfl (by decide +kernel) ⟨Nat.le_of_ble_eq_true rfl, Nat.le_of_ble_eq_true rfl⟩) (z_preV CX hW (r := (RX12, TX12, 37)) zMO_0 rfl) rfl rfl hl.1 rfl (lv_room (Nat.le_of_ble_eq_true rfl)) dX12_isLine_70 ⟨Nat.zero_le _, Nat.zero_le _⟩) (fun z70 gn H locs hok hW => ?_)
    obtain ⟨hz70, hg, hq70⟩ := hok
    rw [hg] at hW
    clear hg
    have e70 : zm_cell S37 144 0 1 = z70 := hz70.symm
    clear hz70
    exact hJ49 z70 ⟨(by unfold zm_isLine_J49; exact zif_t c_49 (zlet_e e70 rfl)), by omega, by omega⟩ H locs ls hW (lv_sub hl [0, 1, 2, 3] rfl)
  ·
    refine lv_aload_n hX0 hB0 dX12_isLine_52 rfl (lv_at hl 0 rfl) ?_
    refine lv_sipush (v := zI 144) hX0 hB0 dX12_isLine_53 (by decide) ?_
    refine lv_iconst (v := zI 1) hX0 hB0 dX12_isLine_56 rfl ?_
    refine lv_iconst (v := zI 0) hX0 hB0 dX12_isLine_57 rfl ?_
    refine z_calli hW (va_runV (C := RX12) (As := [.int (zI 144), .int (zI 1), .int (zI 0)]) (rest := []) CX.fix (zk_cell l o S37 144 1 0 hI37 (by constructor <;> omega) (by constructor <;> omega) (by constructor <;> omega)) (cwV 3 CX.fix.2.2.2.2 gX12_isLine_X12_cell rfl rfl rfl (by decide +kernel) ⟨Nat.le_of_ble_eq_true rfl, Nat.le_of_ble_eq_true rfl⟩) (z_preV CX hW (r := (RX12, TX12, 37)) zMO_0 rfl) rfl rfl hl.1 rfl (lv_room (Nat.le_of_ble_eq_true rfl)) dX12_isLine_58 ⟨Nat.zero_le _, Nat.zero_le _⟩) (fun z58 gn H locs hok hW => ?_)
    obtain ⟨hz58, hg, hq58⟩ := hok
    rw [hg] at hW
    clear hg
    have e58 : zm_cell S37 144 1 0 = z58 := hz58.symm
    clear hz58
    refine lv_goto (tgt := 73) hX0 hB0 dX12_isLine_61 (by decide) ?_
    exact hJ49 z58 ⟨(by unfold zm_isLine_J49; exact zif_f c_49 (zlet_e e58 rfl)), by omega, by omega⟩ H locs ls hW (lv_sub hl [0, 1, 2, 3] rfl)
def zm_makesLine_J28 (z25 : Int) : Int := (if z25 = 0 then 0 else 1)
def zm_makesLine_J42 (z39 : Int) : Int := (if z39 = 0 then 0 else 1)
def zm_makesLine (S : zS2) (a : Int) (b : Int) : Int × zS2 := zlet (zm_isPoint S a) (fun z2 => (if z2 = 0 then (0, S) else zlet (zm_isPoint S b) (fun z10 => (if z10 = 0 then (0, S) else (if a = b then (0, S) else zlet (zm_isNear S a) (fun z25 => zlet (zm_makesLine_J28 z25) (fun u28j => zlet (zm_isNear S b) (fun z39 => zlet (zm_makesLine_J42 z39) (fun w42j => zlet (zm_yOf S a) (fun z55 => zlet (zm_yOf S b) (fun z67 => zlet (zm_modulo S ((z55 * w42j) - (u28j * z67))) (fun z73 => zlet (zm_xOf S b) (fun z83 => zlet (zm_xOf S a) (fun z90 => zlet (zm_modulo S ((u28j * z83) - (z90 * w42j))) (fun z99 => zlet (zm_xOf S a) (fun z107 => zlet (zm_yOf S b) (fun z113 => zlet (zm_yOf S a) (fun z120 => zlet (zm_xOf S b) (fun z126 => zlet (zm_modulo S ((z107 * z113) - (z120 * z126))) (fun z132 => zlet (zm_isLine S z73 z99 z132) (fun q144 => (fun (z144 : Int) (S144 : zS2) => (z144, S144)) q144.1 q144.2)))))))))))))))))))))
set_option maxRecDepth 100000 in
set_option maxHeartbeats 4000000 in
theorem zk_makesLine (l : Launch) {D : va_G} {cI cJ cZ cP cS cM : ClassId} {L : List Nat} {sz : Nat} {f : Nat → va_E} (o : Nat) (S : zS2) (a : Int) (b : Int) (hI : mI S) (ha : -2147483648 ≤ a ∧ a ≤ 2147483647) (hb : -2147483648 ≤ b ∧ b ≤ 2147483647) : zMi l yX12_makesLine wsX12_makesLine 4 95 D (zT cI cJ cZ cP cS cM) L sz (zMO cI cJ o S f) [.ref o, .int (zI a), .int (zI b)] (fun zv gv => zv = (zm_makesLine S a b).1 ∧ gv = zMO cI cJ o (zm_makesLine S a b).2 f ∧ mI (zm_makesLine S a b).2 ∧ (∀ kk ii : Nat, ¬ (kk = 3 ∧ 3500 ≤ (ii : Int)) → (zm_makesLine S a b).2 kk ii = S kk ii) ∧ 0 ≤ zv ∧ zv ≤ 1) := by
  refine zWalk.met (nL := 8) (ret := (some .boolean)) (cc := cX12_makesLine) (by decide) rfl (Nat.le_of_ble_eq_true rfl) ?_
  intro pg en st mi ag bl mt cd ls CX hW hl
  have CX : zC pg st mi ag mt cd cX12_makesLine 8 (some .boolean) RX12 wsX12_makesLine := CX
  generalize hQ : MQ bl _ ag st 0 0 _ = Q
  have hX0 := CX.1
  have hB0 := CX.2.1
  have hl : lv_has ls 8 [(0, .ref o), (1, .int (zI a)), (2, .int (zI b))] := hl
  obtain ⟨H, eH⟩ : ∃ H, H = st.heap := ⟨_, rfl⟩
  obtain ⟨locs, eL⟩ : ∃ L : List Loc, L = [] := ⟨_, rfl⟩
  have hW : zW D (zT cI cJ cZ cP cS cM) L (zQ L sz) st (zMO cI cJ o S f) st.heap H locs := by rw [eH, eL]; exact hW
  suffices hgo : W pg l en ({ frames := 4, cells := 0, slots := 0, locals := 95 } : Room) st mi ag bl mt cd H locs 0 0 Q (F0 mi 0 ls []) by rw [eH, eL] at hgo; exact hgo
  clear eH eL
  have hpb := hI.s10
  refine lv_aload_n hX0 hB0 dX12_makesLine_0 rfl (lv_at hl 0 rfl) ?_
  refine lv_iload_n hX0 hB0 dX12_makesLine_1 rfl (lv_at hl 1 rfl) ?_
  refine z_calli hW (va_runV (C := RX12) (As := [.int (zI a)]) (rest := []) CX.fix (zk_isPoint l o S a hI (by constructor <;> omega)) (cwV 1 CX.fix.2.2.2.2 gX12_makesLine_X12_isPoint rfl rfl rfl (by decide +kernel) ⟨Nat.le_of_ble_eq_true rfl, Nat.le_of_ble_eq_true rfl⟩) (z_preV CX hW (r := (RX12, TX12, 37)) zMO_0 rfl) rfl rfl hl.1 rfl (lv_room (Nat.le_of_ble_eq_true rfl)) dX12_makesLine_2 ⟨Nat.zero_le _, Nat.zero_le _⟩) (fun z2 gn H locs hok hW => ?_)
  obtain ⟨hz2, hg, hq2⟩ := hok
  rw [hg] at hW
  clear hg
  have e2 : zm_isPoint S a = z2 := hz2.symm
  clear hz2
  refine z_if_eq (tgt := 21) CX dX12_makesLine_5 (by decide) (by constructor <;> omega) (fun c_5 => ?_) (fun c_5 => ?_)
  ·
    refine lv_iconst (v := zI 0) hX0 hB0 dX12_makesLine_21 rfl ?_
    have hE : zm_makesLine S a b = (0, S) := by unfold zm_makesLine; exact zlet_e e2 (zif_t c_5 rfl)
    have hFr : ∀ kk ii : Nat, ¬ (kk = 3 ∧ 3500 ≤ (ii : Int)) → S kk ii = S kk ii := fun kk ii hk => rfl
    rw [← hQ]
    exact z_iret (z := 0) CX hW (by rw [hE]; exact ⟨rfl, rfl, hI, hFr, (show 0 ≤ (0 : Int) ∧ (0 : Int) ≤ 1 from by omega)⟩) rfl dX12_makesLine_22
  ·
    refine lv_aload_n hX0 hB0 dX12_makesLine_8 rfl (lv_at hl 0 rfl) ?_
    refine lv_iload_n hX0 hB0 dX12_makesLine_9 rfl (lv_at hl 2 rfl) ?_
    refine z_calli hW (va_runV (C := RX12) (As := [.int (zI b)]) (rest := []) CX.fix (zk_isPoint l o S b hI (by constructor <;> omega)) (cwV 1 CX.fix.2.2.2.2 gX12_makesLine_X12_isPoint rfl rfl rfl (by decide +kernel) ⟨Nat.le_of_ble_eq_true rfl, Nat.le_of_ble_eq_true rfl⟩) (z_preV CX hW (r := (RX12, TX12, 37)) zMO_0 rfl) rfl rfl hl.1 rfl (lv_room (Nat.le_of_ble_eq_true rfl)) dX12_makesLine_10 ⟨Nat.zero_le _, Nat.zero_le _⟩) (fun z10 gn H locs hok hW => ?_)
    obtain ⟨hz10, hg, hq10⟩ := hok
    rw [hg] at hW
    clear hg
    have e10 : zm_isPoint S b = z10 := hz10.symm
    clear hz10
    refine z_if_eq (tgt := 21) CX dX12_makesLine_13 (by decide) (by constructor <;> omega) (fun c_13 => ?_) (fun c_13 => ?_)
    ·
      refine lv_iconst (v := zI 0) hX0 hB0 dX12_makesLine_21 rfl ?_
      have hE : zm_makesLine S a b = (0, S) := by unfold zm_makesLine; exact zlet_e e2 (zif_f c_5 (zlet_e e10 (zif_t c_13 rfl)))
      have hFr : ∀ kk ii : Nat, ¬ (kk = 3 ∧ 3500 ≤ (ii : Int)) → S kk ii = S kk ii := fun kk ii hk => rfl
      rw [← hQ]
      exact z_iret (z := 0) CX hW (by rw [hE]; exact ⟨rfl, rfl, hI, hFr, (show 0 ≤ (0 : Int) ∧ (0 : Int) ≤ 1 from by omega)⟩) rfl dX12_makesLine_22
    ·
      refine lv_iload_n hX0 hB0 dX12_makesLine_16 rfl (lv_at hl 1 rfl) ?_
      refine lv_iload_n hX0 hB0 dX12_makesLine_17 rfl (lv_at hl 2 rfl) ?_
      refine z_icmp_ne (tgt := 23) CX dX12_makesLine_18 (by decide) (by constructor <;> omega) (by constructor <;> omega) (fun c_18 => ?_) (fun c_18 => ?_)
      ·
        refine lv_aload_n hX0 hB0 dX12_makesLine_23 rfl (lv_at hl 0 rfl) ?_
        refine lv_iload_n hX0 hB0 dX12_makesLine_24 rfl (lv_at hl 1 rfl) ?_
        refine z_calli hW (va_runV (C := RX12) (As := [.int (zI a)]) (rest := []) CX.fix (zk_isNear l o S a hI (by constructor <;> omega)) (cwV 1 CX.fix.2.2.2.2 gX12_makesLine_X12_isNear rfl rfl rfl (by decide +kernel) ⟨Nat.le_of_ble_eq_true rfl, Nat.le_of_ble_eq_true rfl⟩) (z_preV CX hW (r := (RX12, TX12, 37)) zMO_0 rfl) rfl rfl hl.1 rfl (lv_room (Nat.le_of_ble_eq_true rfl)) dX12_makesLine_25 ⟨Nat.zero_le _, Nat.zero_le _⟩) (fun z25 gn H locs hok hW => ?_)
        obtain ⟨hz25, hg, hq25⟩ := hok
        rw [hg] at hW
        clear hg
        have e25 : zm_isNear S a = z25 := hz25.symm
        clear hz25
        have hJ28 : ∀ (u28j : Int), (zm_makesLine_J28 z25 = u28j ∧ 0 ≤ u28j ∧ u28j ≤ 1) → ∀ (H : Heap) (locs : List Loc) (ls : Array Slot), zW D (zT cI cJ cZ cP cS cM) L (zQ L sz) st (zMO cI cJ o S f) st.heap H locs → lv_has ls 8 [(0, .ref o), (1, .int (zI a)), (2, .int (zI b))] → W pg l en ({ frames := 4, cells := 0, slots := 0, locals := 95 } : Room) st mi ag bl mt cd H locs 0 0 Q (F0 mi 36 ls [.int (zI u28j)]) := by
          intro u28j hinv H locs ls hW hl
          obtain ⟨e28j, hau28j, hbu28j⟩ := hinv
          refine lv_istore_n (lv' := [(3, .int (zI u28j)), (0, .ref o), (1, .int (zI a)), (2, .int (zI b))]) hX0 hB0 dX12_makesLine_36 rfl hl (by decide) rfl (fun ls hl => ?_)
          refine lv_aload_n hX0 hB0 dX12_makesLine_37 rfl (lv_at hl 1 rfl) ?_
          refine lv_iload_n hX0 hB0 dX12_makesLine_38 rfl (lv_at hl 3 rfl) ?_
          refine z_calli hW (va_runV (C := RX12) (As := [.int (zI b)]) (rest := []) CX.fix (zk_isNear l o S b hI (by constructor <;> omega)) (cwV 1 CX.fix.2.2.2.2 gX12_makesLine_X12_isNear rfl rfl rfl (by decide +kernel) ⟨Nat.le_of_ble_eq_true rfl, Nat.le_of_ble_eq_true rfl⟩) (z_preV CX hW (r := (RX12, TX12, 37)) zMO_0 rfl) rfl rfl hl.1 rfl (lv_room (Nat.le_of_ble_eq_true rfl)) dX12_makesLine_39 ⟨Nat.zero_le _, Nat.zero_le _⟩) (fun z39 gn H locs hok hW => ?_)
          obtain ⟨hz39, hg, hq39⟩ := hok
          rw [hg] at hW
          clear hg
          have e39 : zm_isNear S b = z39 := hz39.symm
          clear hz39
          have hJ42 : ∀ (w42j : Int), (zm_makesLine_J42 z39 = w42j ∧ 0 ≤ w42j ∧ w42j ≤ 1) → ∀ (H : Heap) (locs : List Loc) (ls : Array Slot), zW D (zT cI cJ cZ cP cS cM) L (zQ L sz) st (zMO cI cJ o S f) st.heap H locs → lv_has ls 8 [(3, .int (zI u28j)), (0, .ref o), (1, .int (zI a)), (2, .int (zI b))] → W pg l en ({ frames := 4, cells := 0, slots := 0, locals := 95 } : Room) st mi ag bl mt cd H locs 0 0 Q (F0 mi 50 ls [.int (zI w42j)]) := by
            intro w42j hinv H locs ls hW hl
            obtain ⟨e42j, haw42j, hbw42j⟩ := hinv
            refine lv_istore (lv' := [(4, .int (zI w42j)), (3, .int (zI u28j)), (0, .ref o), (1, .int (zI a)), (2, .int (zI b))]) hX0 hB0 dX12_makesLine_50 hl (by decide) rfl (fun ls hl => ?_)
            refine lv_aload_n hX0 hB0 dX12_makesLine_52 rfl (lv_at hl 2 rfl) ?_
            refine lv_aload_n hX0 hB0 dX12_makesLine_53 rfl (lv_at hl 2 rfl) ?_
            refine lv_iload_n hX0 hB0 dX12_makesLine_54 rfl (lv_at hl 3 rfl) ?_
            refine z_calli hW (va_runV (C := RX12) (As := [.int (zI a)]) (rest := [.ref o]) CX.fix (zk_yOf l o S a hI (by constructor <;> omega)) (cwV 1 CX.fix.2.2.2.2 gX12_makesLine_X12_yOf rfl rfl rfl (by decide +kernel) ⟨Nat.le_of_ble_eq_true rfl, Nat.le_of_ble_eq_true rfl⟩) (z_preV CX hW (r := (RX12, TX12, 37)) zMO_0 rfl) rfl rfl hl.1 rfl (lv_room (Nat.le_of_ble_eq_true rfl)) dX12_makesLine_55 ⟨Nat.zero_le _, Nat.zero_le _⟩) (fun z55 gn H locs hok hW => ?_)
            obtain ⟨hz55, hg, hq55⟩ := hok
            rw [hg] at hW
            clear hg
            have e55 : zm_yOf S a = z55 := hz55.symm
            clear hz55
            refine z_i2l CX dX12_makesLine_58 (by constructor <;> omega) ?_
            refine lv_iload hX0 hB0 dX12_makesLine_59 (lv_at hl 0 rfl) ?_
            refine z_i2l CX dX12_makesLine_61 (by constructor <;> omega) ?_
            refine z_lmul (z := z55 * w42j) CX dX12_makesLine_62 rfl ?_
            have hm62 := zbox_mul0 (a := z55) (b := w42j) (A := 992) (B := 1) (by constructor <;> omega) (by constructor <;> omega) (C := 992) (by decide)
            refine lv_iload_n hX0 hB0 dX12_makesLine_63 rfl (lv_at hl 1 rfl) ?_
            refine z_i2l CX dX12_makesLine_64 (by constructor <;> omega) ?_
            refine lv_aload_n hX0 hB0 dX12_makesLine_65 rfl (lv_at hl 2 rfl) ?_
            refine lv_iload_n hX0 hB0 dX12_makesLine_66 rfl (lv_at hl 4 rfl) ?_
            refine z_calli hW (va_runV (C := RX12) (As := [.int (zI b)]) (rest := [.long (zL u28j), .long (zL (z55 * w42j)), .ref o]) CX.fix (zk_yOf l o S b hI (by constructor <;> omega)) (cwV 1 CX.fix.2.2.2.2 gX12_makesLine_X12_yOf rfl rfl rfl (by decide +kernel) ⟨Nat.le_of_ble_eq_true rfl, Nat.le_of_ble_eq_true rfl⟩) (z_preV CX hW (r := (RX12, TX12, 37)) zMO_0 rfl) rfl rfl hl.1 rfl (lv_room (Nat.le_of_ble_eq_true rfl)) dX12_makesLine_67 ⟨Nat.zero_le _, Nat.zero_le _⟩) (fun z67 gn H locs hok hW => ?_)
            obtain ⟨hz67, hg, hq67⟩ := hok
            rw [hg] at hW
            clear hg
            have e67 : zm_yOf S b = z67 := hz67.symm
            clear hz67
            refine z_i2l CX dX12_makesLine_70 (by constructor <;> omega) ?_
            refine z_lmul (z := u28j * z67) CX dX12_makesLine_71 rfl ?_
            have hm71 := zbox_mul0 (a := u28j) (b := z67) (A := 1) (B := 992) (by constructor <;> omega) (by constructor <;> omega) (C := 992) (by decide)
            refine z_lsub (z := (z55 * w42j) - (u28j * z67)) CX dX12_makesLine_72 rfl ?_
            refine z_calli hW (va_runV (C := RX12) (As := [.long (zL ((z55 * w42j) - (u28j * z67)))]) (rest := []) CX.fix (zk_modulo l o S ((z55 * w42j) - (u28j * z67)) hI (by constructor <;> omega)) (cwV 1 CX.fix.2.2.2.2 gX12_makesLine_X12_modulo rfl rfl rfl (by decide +kernel) ⟨Nat.le_of_ble_eq_true rfl, Nat.le_of_ble_eq_true rfl⟩) (z_preV CX hW (r := (RX12, TX12, 37)) zMO_0 rfl) rfl rfl hl.1 rfl (lv_room (Nat.le_of_ble_eq_true rfl)) dX12_makesLine_73 ⟨Nat.zero_le _, Nat.zero_le _⟩) (fun z73 gn H locs hok hW => ?_)
            obtain ⟨hz73, hg, hq73⟩ := hok
            rw [hg] at hW
            clear hg
            have e73 : zm_modulo S ((z55 * w42j) - (u28j * z67)) = z73 := hz73.symm
            clear hz73
            refine lv_istore (lv' := [(5, .int (zI z73)), (4, .int (zI w42j)), (3, .int (zI u28j)), (0, .ref o), (1, .int (zI a)), (2, .int (zI b))]) hX0 hB0 dX12_makesLine_76 hl (by decide) rfl (fun ls hl => ?_)
            refine lv_aload_n hX0 hB0 dX12_makesLine_78 rfl (lv_at hl 3 rfl) ?_
            refine lv_iload_n hX0 hB0 dX12_makesLine_79 rfl (lv_at hl 2 rfl) ?_
            refine z_i2l CX dX12_makesLine_80 (by constructor <;> omega) ?_
            refine lv_aload_n hX0 hB0 dX12_makesLine_81 rfl (lv_at hl 3 rfl) ?_
            refine lv_iload_n hX0 hB0 dX12_makesLine_82 rfl (lv_at hl 5 rfl) ?_
            refine z_calli hW (va_runV (C := RX12) (As := [.int (zI b)]) (rest := [.long (zL u28j), .ref o]) CX.fix (zk_xOf l o S b hI (by constructor <;> omega)) (cwV 1 CX.fix.2.2.2.2 gX12_makesLine_X12_xOf rfl rfl rfl (by decide +kernel) ⟨Nat.le_of_ble_eq_true rfl, Nat.le_of_ble_eq_true rfl⟩) (z_preV CX hW (r := (RX12, TX12, 37)) zMO_0 rfl) rfl rfl hl.1 rfl (lv_room (Nat.le_of_ble_eq_true rfl)) dX12_makesLine_83 ⟨Nat.zero_le _, Nat.zero_le _⟩) (fun z83 gn H locs hok hW => ?_)
            obtain ⟨hz83, hg, hq83⟩ := hok
            rw [hg] at hW
            clear hg
            have e83 : zm_xOf S b = z83 := hz83.symm
            clear hz83
            refine z_i2l CX dX12_makesLine_86 (by constructor <;> omega) ?_
            refine z_lmul (z := u28j * z83) CX dX12_makesLine_87 rfl ?_
            have hm87 := zbox_mul0 (a := u28j) (b := z83) (A := 1) (B := 992) (by constructor <;> omega) (by constructor <;> omega) (C := 992) (by decide)
            refine lv_aload_n hX0 hB0 dX12_makesLine_88 rfl (lv_at hl 3 rfl) ?_
            refine lv_iload_n hX0 hB0 dX12_makesLine_89 rfl (lv_at hl 4 rfl) ?_
            refine z_calli hW (va_runV (C := RX12) (As := [.int (zI a)]) (rest := [.long (zL (u28j * z83)), .ref o]) CX.fix (zk_xOf l o S a hI (by constructor <;> omega)) (cwV 1 CX.fix.2.2.2.2 gX12_makesLine_X12_xOf rfl rfl rfl (by decide +kernel) ⟨Nat.le_of_ble_eq_true rfl, Nat.le_of_ble_eq_true rfl⟩) (z_preV CX hW (r := (RX12, TX12, 37)) zMO_0 rfl) rfl rfl hl.1 rfl (lv_room (Nat.le_of_ble_eq_true rfl)) dX12_makesLine_90 ⟨Nat.zero_le _, Nat.zero_le _⟩) (fun z90 gn H locs hok hW => ?_)
            obtain ⟨hz90, hg, hq90⟩ := hok
            rw [hg] at hW
            clear hg
            have e90 : zm_xOf S a = z90 := hz90.symm
            clear hz90
            refine z_i2l CX dX12_makesLine_93 (by constructor <;> omega) ?_
            refine lv_iload hX0 hB0 dX12_makesLine_94 (lv_at hl 1 rfl) ?_
            refine z_i2l CX dX12_makesLine_96 (by constructor <;> omega) ?_
            refine z_lmul (z := z90 * w42j) CX dX12_makesLine_97 rfl ?_
            have hm97 := zbox_mul0 (a := z90) (b := w42j) (A := 992) (B := 1) (by constructor <;> omega) (by constructor <;> omega) (C := 992) (by decide)
            refine z_lsub (z := (u28j * z83) - (z90 * w42j)) CX dX12_makesLine_98 rfl ?_
            refine z_calli hW (va_runV (C := RX12) (As := [.long (zL ((u28j * z83) - (z90 * w42j)))]) (rest := []) CX.fix (zk_modulo l o S ((u28j * z83) - (z90 * w42j)) hI (by constructor <;> omega)) (cwV 1 CX.fix.2.2.2.2 gX12_makesLine_X12_modulo rfl rfl rfl (by decide +kernel) ⟨Nat.le_of_ble_eq_true rfl, Nat.le_of_ble_eq_true rfl⟩) (z_preV CX hW (r := (RX12, TX12, 37)) zMO_0 rfl) rfl rfl hl.1 rfl (lv_room (Nat.le_of_ble_eq_true rfl)) dX12_makesLine_99 ⟨Nat.zero_le _, Nat.zero_le _⟩) (fun z99 gn H locs hok hW => ?_)
            obtain ⟨hz99, hg, hq99⟩ := hok
            rw [hg] at hW
            clear hg
            have e99 : zm_modulo S ((u28j * z83) - (z90 * w42j)) = z99 := hz99.symm
            clear hz99
            refine lv_istore (lv' := [(6, .int (zI z99)), (5, .int (zI z73)), (4, .int (zI w42j)), (3, .int (zI u28j)), (0, .ref o), (1, .int (zI a)), (2, .int (zI b))]) hX0 hB0 dX12_makesLine_102 hl (by decide) rfl (fun ls hl => ?_)
            refine lv_aload_n hX0 hB0 dX12_makesLine_104 rfl (lv_at hl 4 rfl) ?_
            refine lv_aload_n hX0 hB0 dX12_makesLine_105 rfl (lv_at hl 4 rfl) ?_
            refine lv_iload_n hX0 hB0 dX12_makesLine_106 rfl (lv_at hl 5 rfl) ?_
            refine z_calli hW (va_runV (C := RX12) (As := [.int (zI a)]) (rest := [.ref o]) CX.fix (zk_xOf l o S a hI (by constructor <;> omega)) (cwV 1 CX.fix.2.2.2.2 gX12_makesLine_X12_xOf rfl rfl rfl (by decide +kernel) ⟨Nat.le_of_ble_eq_true rfl, Nat.le_of_ble_eq_true rfl⟩) (z_preV CX hW (r := (RX12, TX12, 37)) zMO_0 rfl) rfl rfl hl.1 rfl (lv_room (Nat.le_of_ble_eq_true rfl)) dX12_makesLine_107 ⟨Nat.zero_le _, Nat.zero_le _⟩) (fun z107 gn H locs hok hW => ?_)
            obtain ⟨hz107, hg, hq107⟩ := hok
            rw [hg] at hW
            clear hg
            have e107 : zm_xOf S a = z107 := hz107.symm
            clear hz107
            refine z_i2l CX dX12_makesLine_110 (by constructor <;> omega) ?_
            refine lv_aload_n hX0 hB0 dX12_makesLine_111 rfl (lv_at hl 4 rfl) ?_
            refine lv_iload_n hX0 hB0 dX12_makesLine_112 rfl (lv_at hl 6 rfl) ?_
            refine z_calli hW (va_runV (C := RX12) (As := [.int (zI b)]) (rest := [.long (zL z107), .ref o]) CX.fix (zk_yOf l o S b hI (by constructor <;> omega)) (cwV 1 CX.fix.2.2.2.2 gX12_makesLine_X12_yOf rfl rfl rfl (by decide +kernel) ⟨Nat.le_of_ble_eq_true rfl, Nat.le_of_ble_eq_true rfl⟩) (z_preV CX hW (r := (RX12, TX12, 37)) zMO_0 rfl) rfl rfl hl.1 rfl (lv_room (Nat.le_of_ble_eq_true rfl)) dX12_makesLine_113 ⟨Nat.zero_le _, Nat.zero_le _⟩) (fun z113 gn H locs hok hW => ?_)
            obtain ⟨hz113, hg, hq113⟩ := hok
            rw [hg] at hW
            clear hg
            have e113 : zm_yOf S b = z113 := hz113.symm
            clear hz113
            refine z_i2l CX dX12_makesLine_116 (by constructor <;> omega) ?_
            refine z_lmul (z := z107 * z113) CX dX12_makesLine_117 rfl ?_
            have hm117 := zbox_mul0 (a := z107) (b := z113) (A := 992) (B := 992) (by constructor <;> omega) (by constructor <;> omega) (C := 984064) (by decide)
            refine lv_aload_n hX0 hB0 dX12_makesLine_118 rfl (lv_at hl 4 rfl) ?_
            refine lv_iload_n hX0 hB0 dX12_makesLine_119 rfl (lv_at hl 5 rfl) ?_
            refine z_calli hW (va_runV (C := RX12) (As := [.int (zI a)]) (rest := [.long (zL (z107 * z113)), .ref o]) CX.fix (zk_yOf l o S a hI (by constructor <;> omega)) (cwV 1 CX.fix.2.2.2.2 gX12_makesLine_X12_yOf rfl rfl rfl (by decide +kernel) ⟨Nat.le_of_ble_eq_true rfl, Nat.le_of_ble_eq_true rfl⟩) (z_preV CX hW (r := (RX12, TX12, 37)) zMO_0 rfl) rfl rfl hl.1 rfl (lv_room (Nat.le_of_ble_eq_true rfl)) dX12_makesLine_120 ⟨Nat.zero_le _, Nat.zero_le _⟩) (fun z120 gn H locs hok hW => ?_)
            obtain ⟨hz120, hg, hq120⟩ := hok
            rw [hg] at hW
            clear hg
            have e120 : zm_yOf S a = z120 := hz120.symm
            clear hz120
            refine z_i2l CX dX12_makesLine_123 (by constructor <;> omega) ?_
            refine lv_aload_n hX0 hB0 dX12_makesLine_124 rfl (lv_at hl 4 rfl) ?_
            refine lv_iload_n hX0 hB0 dX12_makesLine_125 rfl (lv_at hl 6 rfl) ?_
            refine z_calli hW (va_runV (C := RX12) (As := [.int (zI b)]) (rest := [.long (zL z120), .long (zL (z107 * z113)), .ref o]) CX.fix (zk_xOf l o S b hI (by constructor <;> omega)) (cwV 1 CX.fix.2.2.2.2 gX12_makesLine_X12_xOf rfl rfl rfl (by decide +kernel) ⟨Nat.le_of_ble_eq_true rfl, Nat.le_of_ble_eq_true rfl⟩) (z_preV CX hW (r := (RX12, TX12, 37)) zMO_0 rfl) rfl rfl hl.1 rfl (lv_room (Nat.le_of_ble_eq_true rfl)) dX12_makesLine_126 ⟨Nat.zero_le _, Nat.zero_le _⟩) (fun z126 gn H locs hok hW => ?_)
            obtain ⟨hz126, hg, hq126⟩ := hok
            rw [hg] at hW
            clear hg
            have e126 : zm_xOf S b = z126 := hz126.symm
            clear hz126
            refine z_i2l CX dX12_makesLine_129 (by constructor <;> omega) ?_
            refine z_lmul (z := z120 * z126) CX dX12_makesLine_130 rfl ?_
            have hm130 := zbox_mul0 (a := z120) (b := z126) (A := 992) (B := 992) (by constructor <;> omega) (by constructor <;> omega) (C := 984064) (by decide)
            refine z_lsub (z := (z107 * z113) - (z120 * z126)) CX dX12_makesLine_131 rfl ?_
            refine z_calli hW (va_runV (C := RX12) (As := [.long (zL ((z107 * z113) - (z120 * z126)))]) (rest := []) CX.fix (zk_modulo l o S ((z107 * z113) - (z120 * z126)) hI (by constructor <;> omega)) (cwV 1 CX.fix.2.2.2.2 gX12_makesLine_X12_modulo rfl rfl rfl (by decide +kernel) ⟨Nat.le_of_ble_eq_true rfl, Nat.le_of_ble_eq_true rfl⟩) (z_preV CX hW (r := (RX12, TX12, 37)) zMO_0 rfl) rfl rfl hl.1 rfl (lv_room (Nat.le_of_ble_eq_true rfl)) dX12_makesLine_132 ⟨Nat.zero_le _, Nat.zero_le _⟩) (fun z132 gn H locs hok hW => ?_)
            obtain ⟨hz132, hg, hq132⟩ := hok
            rw [hg] at hW
            clear hg
            have e132 : zm_modulo S ((z107 * z113) - (z120 * z126)) = z132 := hz132.symm
            clear hz132
            refine lv_istore (lv' := [(7, .int (zI z132)), (6, .int (zI z99)), (5, .int (zI z73)), (4, .int (zI w42j)), (3, .int (zI u28j)), (0, .ref o), (1, .int (zI a)), (2, .int (zI b))]) hX0 hB0 dX12_makesLine_135 hl (by decide) rfl (fun ls hl => ?_)
            refine lv_aload_n hX0 hB0 dX12_makesLine_137 rfl (lv_at hl 5 rfl) ?_
            refine lv_iload hX0 hB0 dX12_makesLine_138 (lv_at hl 2 rfl) ?_
            refine lv_iload hX0 hB0 dX12_makesLine_140 (lv_at hl 1 rfl) ?_
            refine lv_iload hX0 hB0 dX12_makesLine_142 (lv_at hl 0 rfl) ?_
            refine z_calli hW (va_runV (C := RX12) (As := [.int (zI z73), .int (zI z99), .int (zI z132)]) (rest := []) CX.fix (zk_isLine l o S z73 z99 z132 hI (by constructor <;> omega) (by constructor <;> omega) (by constructor <;> omega)) (cwV 3 CX.fix.2.2.2.2 gX12_makesLine_X12_isLine rfl rfl rfl (by decide +kernel) ⟨Nat.le_of_ble_eq_true rfl, Nat.le_of_ble_eq_true rfl⟩) (z_preV CX hW (r := (RX12, TX12, 37)) zMO_0 rfl) rfl rfl hl.1 rfl (lv_room (Nat.le_of_ble_eq_true rfl)) dX12_makesLine_144 ⟨Nat.zero_le _, Nat.zero_le _⟩) (fun z144 gn H locs hok hW => ?_)
            obtain ⟨hz144, hg, hI144, hf144, hq144⟩ := hok
            obtain ⟨S144, hS144⟩ : ∃ q, q = (zm_isLine S z73 z99 z132).2 := ⟨_, rfl⟩
            rw [← hS144] at hg hI144 hf144
            skip
            try rw [← hS144] at hq144
            rw [hg] at hW
            clear hg
            have e144 : zm_isLine S z73 z99 z132 = (z144, S144) := Prod.ext hz144.symm hS144.symm
            clear hz144 hS144
            have hE : zm_makesLine S a b = (z144, S144) := by unfold zm_makesLine; exact zlet_e e2 (zif_f c_5 (zlet_e e10 (zif_f c_13 (zif_f c_18 (zlet_e e25 (zlet_e e28j (zlet_e e39 (zlet_e e42j (zlet_e e55 (zlet_e e67 (zlet_e e73 (zlet_e e83 (zlet_e e90 (zlet_e e99 (zlet_e e107 (zlet_e e113 (zlet_e e120 (zlet_e e126 (zlet_e e132 (zlet_e e144 rfl))))))))))))))))))))
            have hFr : ∀ kk ii : Nat, ¬ (kk = 3 ∧ 3500 ≤ (ii : Int)) → S144 kk ii = S kk ii := fun kk ii hk => (hf144 kk ii (by omega))
            rw [← hQ]
            exact z_iret (z := z144) CX hW (by rw [hE]; exact ⟨rfl, rfl, hI144, hFr, (show 0 ≤ z144 ∧ z144 ≤ 1 from by omega)⟩) (zI_bool (by omega)) dX12_makesLine_147
          refine z_if_eq (tgt := 49) CX dX12_makesLine_42 (by decide) (by constructor <;> omega) (fun c_42 => ?_) (fun c_42 => ?_)
          ·
            refine lv_iconst (v := zI 0) hX0 hB0 dX12_makesLine_49 rfl ?_
            exact hJ42 0 ⟨(by unfold zm_makesLine_J42; exact zif_t c_42 rfl), by omega, by omega⟩ H locs ls hW (lv_sub hl [0, 1, 2, 3] rfl)
          ·
            refine lv_iconst (v := zI 1) hX0 hB0 dX12_makesLine_45 rfl ?_
            refine lv_goto (tgt := 50) hX0 hB0 dX12_makesLine_46 (by decide) ?_
            exact hJ42 1 ⟨(by unfold zm_makesLine_J42; exact zif_f c_42 rfl), by omega, by omega⟩ H locs ls hW (lv_sub hl [0, 1, 2, 3] rfl)
        refine z_if_eq (tgt := 35) CX dX12_makesLine_28 (by decide) (by constructor <;> omega) (fun c_28 => ?_) (fun c_28 => ?_)
        ·
          refine lv_iconst (v := zI 0) hX0 hB0 dX12_makesLine_35 rfl ?_
          exact hJ28 0 ⟨(by unfold zm_makesLine_J28; exact zif_t c_28 rfl), by omega, by omega⟩ H locs ls hW (lv_sub hl [0, 1, 2] rfl)
        ·
          refine lv_iconst (v := zI 1) hX0 hB0 dX12_makesLine_31 rfl ?_
          refine lv_goto (tgt := 36) hX0 hB0 dX12_makesLine_32 (by decide) ?_
          exact hJ28 1 ⟨(by unfold zm_makesLine_J28; exact zif_f c_28 rfl), by omega, by omega⟩ H locs ls hW (lv_sub hl [0, 1, 2] rfl)
      ·
        refine lv_iconst (v := zI 0) hX0 hB0 dX12_makesLine_21 rfl ?_
        have hE : zm_makesLine S a b = (0, S) := by unfold zm_makesLine; exact zlet_e e2 (zif_f c_5 (zlet_e e10 (zif_f c_13 (zif_t c_18 rfl))))
        have hFr : ∀ kk ii : Nat, ¬ (kk = 3 ∧ 3500 ≤ (ii : Int)) → S kk ii = S kk ii := fun kk ii hk => rfl
        rw [← hQ]
        exact z_iret (z := 0) CX hW (by rw [hE]; exact ⟨rfl, rfl, hI, hFr, (show 0 ≤ (0 : Int) ∧ (0 : Int) ≤ 1 from by omega)⟩) rfl dX12_makesLine_22
def zm_makesTangent (S : zS2) (a : Int) (pt : Int) : Int × zS2 := zlet (zm_isCurve S a) (fun z2 => (if z2 = 0 then (0, S) else zlet (zm_isPoint S pt) (fun z10 => (if z10 = 0 then (0, S) else zlet (zm_orderAt S a pt) (fun q19 => (fun (z19 : Int) (S19 : zS2) => (if z19 = 1 then zlet (zm_cell S19 141 1 0) (fun z34 => zlet (zm_cell S19 141 0 1) (fun z44 => zlet (zm_isNear S19 pt) (fun z51 => (if z51 = 0 then zlet (zm_points S19) (fun z92 => (if pt = z92 - 1 then zlet (zm_isLine S19 z34 0 z44) (fun q105 => (fun (z105 : Int) (S105 : zS2) => (z105, S105)) q105.1 q105.2) else zlet (zm_yOf S19 pt) (fun z118 => zlet (zm_modulo S19 ((-z34) * z118)) (fun z123 => zlet (zm_isLine S19 z123 z34 z44) (fun q129 => (fun (z129 : Int) (S129 : zS2) => (z129, S129)) q129.1 q129.2))))) else zlet (zm_xOf S19 pt) (fun z67 => zlet (zm_yOf S19 pt) (fun z77 => zlet (zm_modulo S19 (((-z34) * z67) - (z44 * z77))) (fun z83 => zlet (zm_isLine S19 z34 z44 z83) (fun q86 => (fun (z86 : Int) (S86 : zS2) => (z86, S86)) q86.1 q86.2)))))))) else (0, S19))) q19.1 q19.2)))))
set_option maxRecDepth 100000 in
set_option maxHeartbeats 4000000 in
theorem zk_makesTangent (l : Launch) {D : va_G} {cI cJ cZ cP cS cM : ClassId} {L : List Nat} {sz : Nat} {f : Nat → va_E} (o : Nat) (S : zS2) (a : Int) (pt : Int) (hI : mI S) (ha : -2147483648 ≤ a ∧ a ≤ 2147483647) (hpt : -2147483648 ≤ pt ∧ pt ≤ 2147483647) : zMi l yX12_makesTangent wsX12_makesTangent 5 127 D (zT cI cJ cZ cP cS cM) L sz (zMO cI cJ o S f) [.ref o, .int (zI a), .int (zI pt)] (fun zv gv => zv = (zm_makesTangent S a pt).1 ∧ gv = zMO cI cJ o (zm_makesTangent S a pt).2 f ∧ mI (zm_makesTangent S a pt).2 ∧ (∀ kk ii : Nat, ¬ (kk = 3 ∧ 3500 ≤ (ii : Int)) → (zm_makesTangent S a pt).2 kk ii = S kk ii) ∧ 0 ≤ zv ∧ zv ≤ 1) := by
  refine zWalk.met (nL := 5) (ret := (some .boolean)) (cc := cX12_makesTangent) (by decide) rfl (Nat.le_of_ble_eq_true rfl) ?_
  intro pg en st mi ag bl mt cd ls CX hW hl
  have CX : zC pg st mi ag mt cd cX12_makesTangent 5 (some .boolean) RX12 wsX12_makesTangent := CX
  generalize hQ : MQ bl _ ag st 0 0 _ = Q
  have hX0 := CX.1
  have hB0 := CX.2.1
  have hl : lv_has ls 5 [(0, .ref o), (1, .int (zI a)), (2, .int (zI pt))] := hl
  obtain ⟨H, eH⟩ : ∃ H, H = st.heap := ⟨_, rfl⟩
  obtain ⟨locs, eL⟩ : ∃ L : List Loc, L = [] := ⟨_, rfl⟩
  have hW : zW D (zT cI cJ cZ cP cS cM) L (zQ L sz) st (zMO cI cJ o S f) st.heap H locs := by rw [eH, eL]; exact hW
  suffices hgo : W pg l en ({ frames := 5, cells := 0, slots := 0, locals := 127 } : Room) st mi ag bl mt cd H locs 0 0 Q (F0 mi 0 ls []) by rw [eH, eL] at hgo; exact hgo
  clear eH eL
  have hpb := hI.s10
  refine lv_aload_n hX0 hB0 dX12_makesTangent_0 rfl (lv_at hl 0 rfl) ?_
  refine lv_iload_n hX0 hB0 dX12_makesTangent_1 rfl (lv_at hl 1 rfl) ?_
  refine z_calli hW (va_runV (C := RX12) (As := [.int (zI a)]) (rest := []) CX.fix (zk_isCurve l o S a hI (by constructor <;> omega)) (cwV 1 CX.fix.2.2.2.2 gX12_makesTangent_X12_isCurve rfl rfl rfl (by decide +kernel) ⟨Nat.le_of_ble_eq_true rfl, Nat.le_of_ble_eq_true rfl⟩) (z_preV CX hW (r := (RX12, TX12, 37)) zMO_0 rfl) rfl rfl hl.1 rfl (lv_room (Nat.le_of_ble_eq_true rfl)) dX12_makesTangent_2 ⟨Nat.zero_le _, Nat.zero_le _⟩) (fun z2 gn H locs hok hW => ?_)
  obtain ⟨hz2, hg, hq2⟩ := hok
  rw [hg] at hW
  clear hg
  have e2 : zm_isCurve S a = z2 := hz2.symm
  clear hz2
  refine z_if_eq (tgt := 26) CX dX12_makesTangent_5 (by decide) (by constructor <;> omega) (fun c_5 => ?_) (fun c_5 => ?_)
  ·
    refine lv_iconst (v := zI 0) hX0 hB0 dX12_makesTangent_26 rfl ?_
    have hE : zm_makesTangent S a pt = (0, S) := by unfold zm_makesTangent; exact zlet_e e2 (zif_t c_5 rfl)
    have hFr : ∀ kk ii : Nat, ¬ (kk = 3 ∧ 3500 ≤ (ii : Int)) → S kk ii = S kk ii := fun kk ii hk => rfl
    rw [← hQ]
    exact z_iret (z := 0) CX hW (by rw [hE]; exact ⟨rfl, rfl, hI, hFr, (show 0 ≤ (0 : Int) ∧ (0 : Int) ≤ 1 from by omega)⟩) rfl dX12_makesTangent_27
  ·
    refine lv_aload_n hX0 hB0 dX12_makesTangent_8 rfl (lv_at hl 0 rfl) ?_
    refine lv_iload_n hX0 hB0 dX12_makesTangent_9 rfl (lv_at hl 2 rfl) ?_
    refine z_calli hW (va_runV (C := RX12) (As := [.int (zI pt)]) (rest := []) CX.fix (zk_isPoint l o S pt hI (by constructor <;> omega)) (cwV 1 CX.fix.2.2.2.2 gX12_makesTangent_X12_isPoint rfl rfl rfl (by decide +kernel) ⟨Nat.le_of_ble_eq_true rfl, Nat.le_of_ble_eq_true rfl⟩) (z_preV CX hW (r := (RX12, TX12, 37)) zMO_0 rfl) rfl rfl hl.1 rfl (lv_room (Nat.le_of_ble_eq_true rfl)) dX12_makesTangent_10 ⟨Nat.zero_le _, Nat.zero_le _⟩) (fun z10 gn H locs hok hW => ?_)
    obtain ⟨hz10, hg, hq10⟩ := hok
    rw [hg] at hW
    clear hg
    have e10 : zm_isPoint S pt = z10 := hz10.symm
    clear hz10
    refine z_if_eq (tgt := 26) CX dX12_makesTangent_13 (by decide) (by constructor <;> omega) (fun c_13 => ?_) (fun c_13 => ?_)
    ·
      refine lv_iconst (v := zI 0) hX0 hB0 dX12_makesTangent_26 rfl ?_
      have hE : zm_makesTangent S a pt = (0, S) := by unfold zm_makesTangent; exact zlet_e e2 (zif_f c_5 (zlet_e e10 (zif_t c_13 rfl)))
      have hFr : ∀ kk ii : Nat, ¬ (kk = 3 ∧ 3500 ≤ (ii : Int)) → S kk ii = S kk ii := fun kk ii hk => rfl
      rw [← hQ]
      exact z_iret (z := 0) CX hW (by rw [hE]; exact ⟨rfl, rfl, hI, hFr, (show 0 ≤ (0 : Int) ∧ (0 : Int) ≤ 1 from by omega)⟩) rfl dX12_makesTangent_27
    ·
      refine lv_aload_n hX0 hB0 dX12_makesTangent_16 rfl (lv_at hl 0 rfl) ?_
      refine lv_iload_n hX0 hB0 dX12_makesTangent_17 rfl (lv_at hl 1 rfl) ?_
      refine lv_iload_n hX0 hB0 dX12_makesTangent_18 rfl (lv_at hl 2 rfl) ?_
      refine z_calli hW (va_runV (C := RX12) (As := [.int (zI a), .int (zI pt)]) (rest := []) CX.fix (zk_orderAt l o S a pt hI (by constructor <;> omega) (by constructor <;> omega)) (cwV 2 CX.fix.2.2.2.2 gX12_makesTangent_X12_orderAt rfl rfl rfl (by decide +kernel) ⟨Nat.le_of_ble_eq_true rfl, Nat.le_of_ble_eq_true rfl⟩) (z_preV CX hW (r := (RX12, TX12, 37)) zMO_0 rfl) rfl rfl hl.1 rfl (lv_room (Nat.le_of_ble_eq_true rfl)) dX12_makesTangent_19 ⟨Nat.zero_le _, Nat.zero_le _⟩) (fun z19 gn H locs hok hW => ?_)
      obtain ⟨hz19, hg, hI19, hf19, hq19⟩ := hok
      obtain ⟨S19, hS19⟩ : ∃ q, q = (zm_orderAt S a pt).2 := ⟨_, rfl⟩
      rw [← hS19] at hg hI19 hf19
      have t19_10 : S19 0 10 = S 0 10 := hf19 0 10 (by omega)
      skip
      try rw [← hS19] at hq19
      rw [hg] at hW
      clear hg
      have e19 : zm_orderAt S a pt = (z19, S19) := Prod.ext hz19.symm hS19.symm
      clear hz19 hS19
      refine lv_iconst (v := zI 1) hX0 hB0 dX12_makesTangent_22 rfl ?_
      refine z_icmp_eq (tgt := 28) CX dX12_makesTangent_23 (by decide) (by constructor <;> omega) (by constructor <;> omega) (fun c_23 => ?_) (fun c_23 => ?_)
      ·
        refine lv_aload_n hX0 hB0 dX12_makesTangent_28 rfl (lv_at hl 0 rfl) ?_
        refine lv_sipush (v := zI 141) hX0 hB0 dX12_makesTangent_29 (by decide) ?_
        refine lv_iconst (v := zI 1) hX0 hB0 dX12_makesTangent_32 rfl ?_
        refine lv_iconst (v := zI 0) hX0 hB0 dX12_makesTangent_33 rfl ?_
        refine z_calli hW (va_runV (C := RX12) (As := [.int (zI 141), .int (zI 1), .int (zI 0)]) (rest := []) CX.fix (zk_cell l o S19 141 1 0 hI19 (by constructor <;> omega) (by constructor <;> omega) (by constructor <;> omega)) (cwV 3 CX.fix.2.2.2.2 gX12_makesTangent_X12_cell rfl rfl rfl (by decide +kernel) ⟨Nat.le_of_ble_eq_true rfl, Nat.le_of_ble_eq_true rfl⟩) (z_preV CX hW (r := (RX12, TX12, 37)) zMO_0 rfl) rfl rfl hl.1 rfl (lv_room (Nat.le_of_ble_eq_true rfl)) dX12_makesTangent_34 ⟨Nat.zero_le _, Nat.zero_le _⟩) (fun z34 gn H locs hok hW => ?_)
        obtain ⟨hz34, hg, hq34⟩ := hok
        rw [hg] at hW
        clear hg
        have e34 : zm_cell S19 141 1 0 = z34 := hz34.symm
        clear hz34
        refine lv_istore_n (lv' := [(3, .int (zI z34)), (0, .ref o), (1, .int (zI a)), (2, .int (zI pt))]) hX0 hB0 dX12_makesTangent_37 rfl hl (by decide) rfl (fun ls hl => ?_)
        refine lv_aload_n hX0 hB0 dX12_makesTangent_38 rfl (lv_at hl 1 rfl) ?_
        refine lv_sipush (v := zI 141) hX0 hB0 dX12_makesTangent_39 (by decide) ?_
        refine lv_iconst (v := zI 0) hX0 hB0 dX12_makesTangent_42 rfl ?_
        refine lv_iconst (v := zI 1) hX0 hB0 dX12_makesTangent_43 rfl ?_
        refine z_calli hW (va_runV (C := RX12) (As := [.int (zI 141), .int (zI 0), .int (zI 1)]) (rest := []) CX.fix (zk_cell l o S19 141 0 1 hI19 (by constructor <;> omega) (by constructor <;> omega) (by constructor <;> omega)) (cwV 3 CX.fix.2.2.2.2 gX12_makesTangent_X12_cell rfl rfl rfl (by decide +kernel) ⟨Nat.le_of_ble_eq_true rfl, Nat.le_of_ble_eq_true rfl⟩) (z_preV CX hW (r := (RX12, TX12, 37)) zMO_0 rfl) rfl rfl hl.1 rfl (lv_room (Nat.le_of_ble_eq_true rfl)) dX12_makesTangent_44 ⟨Nat.zero_le _, Nat.zero_le _⟩) (fun z44 gn H locs hok hW => ?_)
        obtain ⟨hz44, hg, hq44⟩ := hok
        rw [hg] at hW
        clear hg
        have e44 : zm_cell S19 141 0 1 = z44 := hz44.symm
        clear hz44
        refine lv_istore (lv' := [(4, .int (zI z44)), (3, .int (zI z34)), (0, .ref o), (1, .int (zI a)), (2, .int (zI pt))]) hX0 hB0 dX12_makesTangent_47 hl (by decide) rfl (fun ls hl => ?_)
        refine lv_aload_n hX0 hB0 dX12_makesTangent_49 rfl (lv_at hl 2 rfl) ?_
        refine lv_iload_n hX0 hB0 dX12_makesTangent_50 rfl (lv_at hl 4 rfl) ?_
        refine z_calli hW (va_runV (C := RX12) (As := [.int (zI pt)]) (rest := []) CX.fix (zk_isNear l o S19 pt hI19 (by constructor <;> omega)) (cwV 1 CX.fix.2.2.2.2 gX12_makesTangent_X12_isNear rfl rfl rfl (by decide +kernel) ⟨Nat.le_of_ble_eq_true rfl, Nat.le_of_ble_eq_true rfl⟩) (z_preV CX hW (r := (RX12, TX12, 37)) zMO_0 rfl) rfl rfl hl.1 rfl (lv_room (Nat.le_of_ble_eq_true rfl)) dX12_makesTangent_51 ⟨Nat.zero_le _, Nat.zero_le _⟩) (fun z51 gn H locs hok hW => ?_)
        obtain ⟨hz51, hg, hq51⟩ := hok
        rw [hg] at hW
        clear hg
        have e51 : zm_isNear S19 pt = z51 := hz51.symm
        clear hz51
        refine z_if_eq (tgt := 90) CX dX12_makesTangent_54 (by decide) (by constructor <;> omega) (fun c_54 => ?_) (fun c_54 => ?_)
        ·
          refine lv_iload_n hX0 hB0 dX12_makesTangent_90 rfl (lv_at hl 4 rfl) ?_
          refine lv_aload_n hX0 hB0 dX12_makesTangent_91 rfl (lv_at hl 2 rfl) ?_
          refine z_calli hW (va_runV (C := RX12) (As := []) (rest := [.int (zI pt)]) CX.fix (zk_points l o S19  hI19 ) (cwV 0 CX.fix.2.2.2.2 gX12_makesTangent_X12_points rfl rfl rfl (by decide +kernel) ⟨Nat.le_of_ble_eq_true rfl, Nat.le_of_ble_eq_true rfl⟩) (z_preV CX hW (r := (RX12, TX12, 37)) zMO_0 rfl) rfl rfl hl.1 rfl (lv_room (Nat.le_of_ble_eq_true rfl)) dX12_makesTangent_92 ⟨Nat.zero_le _, Nat.zero_le _⟩) (fun z92 gn H locs hok hW => ?_)
          obtain ⟨hz92, hg, hq92⟩ := hok
          rw [hg] at hW
          clear hg
          have e92 : zm_points S19 = z92 := hz92.symm
          clear hz92
          refine lv_iconst (v := zI 1) hX0 hB0 dX12_makesTangent_95 rfl ?_
          refine z_isub (z := z92 - 1) CX dX12_makesTangent_96 rfl ?_
          refine z_icmp_ne (tgt := 111) CX dX12_makesTangent_97 (by decide) (by constructor <;> omega) (by constructor <;> omega) (fun c_97 => ?_) (fun c_97 => ?_)
          ·
            refine lv_aload_n hX0 hB0 dX12_makesTangent_111 rfl (lv_at hl 2 rfl) ?_
            refine lv_aload_n hX0 hB0 dX12_makesTangent_112 rfl (lv_at hl 2 rfl) ?_
            refine lv_iload_n hX0 hB0 dX12_makesTangent_113 rfl (lv_at hl 1 rfl) ?_
            refine z_i2l CX dX12_makesTangent_114 (by constructor <;> omega) ?_
            refine z_lneg (z := -z34) CX dX12_makesTangent_115 rfl ?_
            refine lv_aload_n hX0 hB0 dX12_makesTangent_116 rfl (lv_at hl 2 rfl) ?_
            refine lv_iload_n hX0 hB0 dX12_makesTangent_117 rfl (lv_at hl 4 rfl) ?_
            refine z_calli hW (va_runV (C := RX12) (As := [.int (zI pt)]) (rest := [.long (zL (-z34)), .ref o, .ref o]) CX.fix (zk_yOf l o S19 pt hI19 (by constructor <;> omega)) (cwV 1 CX.fix.2.2.2.2 gX12_makesTangent_X12_yOf rfl rfl rfl (by decide +kernel) ⟨Nat.le_of_ble_eq_true rfl, Nat.le_of_ble_eq_true rfl⟩) (z_preV CX hW (r := (RX12, TX12, 37)) zMO_0 rfl) rfl rfl hl.1 rfl (lv_room (Nat.le_of_ble_eq_true rfl)) dX12_makesTangent_118 ⟨Nat.zero_le _, Nat.zero_le _⟩) (fun z118 gn H locs hok hW => ?_)
            obtain ⟨hz118, hg, hq118⟩ := hok
            rw [hg] at hW
            clear hg
            have e118 : zm_yOf S19 pt = z118 := hz118.symm
            clear hz118
            refine z_i2l CX dX12_makesTangent_121 (by constructor <;> omega) ?_
            refine z_lmul (z := (-z34) * z118) CX dX12_makesTangent_122 rfl ?_
            have hm122 := zbox_mul (a := -z34) (b := z118) (A := 30) (B := 992) (by constructor <;> omega) (by constructor <;> omega) (C := 29760) (by decide)
            refine z_calli hW (va_runV (C := RX12) (As := [.long (zL ((-z34) * z118))]) (rest := [.ref o]) CX.fix (zk_modulo l o S19 ((-z34) * z118) hI19 (by constructor <;> omega)) (cwV 1 CX.fix.2.2.2.2 gX12_makesTangent_X12_modulo rfl rfl rfl (by decide +kernel) ⟨Nat.le_of_ble_eq_true rfl, Nat.le_of_ble_eq_true rfl⟩) (z_preV CX hW (r := (RX12, TX12, 37)) zMO_0 rfl) rfl rfl hl.1 rfl (lv_room (Nat.le_of_ble_eq_true rfl)) dX12_makesTangent_123 ⟨Nat.zero_le _, Nat.zero_le _⟩) (fun z123 gn H locs hok hW => ?_)
            obtain ⟨hz123, hg, hq123⟩ := hok
            rw [hg] at hW
            clear hg
            have e123 : zm_modulo S19 ((-z34) * z118) = z123 := hz123.symm
            clear hz123
            refine lv_iload_n hX0 hB0 dX12_makesTangent_126 rfl (lv_at hl 1 rfl) ?_
            refine lv_iload hX0 hB0 dX12_makesTangent_127 (lv_at hl 0 rfl) ?_
            refine z_calli hW (va_runV (C := RX12) (As := [.int (zI z123), .int (zI z34), .int (zI z44)]) (rest := []) CX.fix (zk_isLine l o S19 z123 z34 z44 hI19 (by constructor <;> omega) (by constructor <;> omega) (by constructor <;> omega)) (cwV 3 CX.fix.2.2.2.2 gX12_makesTangent_X12_isLine rfl rfl rfl (by decide +kernel) ⟨Nat.le_of_ble_eq_true rfl, Nat.le_of_ble_eq_true rfl⟩) (z_preV CX hW (r := (RX12, TX12, 37)) zMO_0 rfl) rfl rfl hl.1 rfl (lv_room (Nat.le_of_ble_eq_true rfl)) dX12_makesTangent_129 ⟨Nat.zero_le _, Nat.zero_le _⟩) (fun z129 gn H locs hok hW => ?_)
            obtain ⟨hz129, hg, hI129, hf129, hq129⟩ := hok
            obtain ⟨S129, hS129⟩ : ∃ q, q = (zm_isLine S19 z123 z34 z44).2 := ⟨_, rfl⟩
            rw [← hS129] at hg hI129 hf129
            have t129_10 : S129 0 10 = S19 0 10 := hf129 0 10 (by omega)
            skip
            try rw [← hS129] at hq129
            rw [hg] at hW
            clear hg
            have e129 : zm_isLine S19 z123 z34 z44 = (z129, S129) := Prod.ext hz129.symm hS129.symm
            clear hz129 hS129
            have hE : zm_makesTangent S a pt = (z129, S129) := by unfold zm_makesTangent; exact zlet_e e2 (zif_f c_5 (zlet_e e10 (zif_f c_13 (zlet_e e19 (zif_t c_23 (zlet_e e34 (zlet_e e44 (zlet_e e51 (zif_t c_54 (zlet_e e92 (zif_f c_97 (zlet_e e118 (zlet_e e123 (zlet_e e129 rfl))))))))))))))
            have hFr : ∀ kk ii : Nat, ¬ (kk = 3 ∧ 3500 ≤ (ii : Int)) → S129 kk ii = S kk ii := fun kk ii hk => ((hf129 kk ii (by omega))).trans (hf19 kk ii (by omega))
            rw [← hQ]
            exact z_iret (z := z129) CX hW (by rw [hE]; exact ⟨rfl, rfl, hI129, hFr, (show 0 ≤ z129 ∧ z129 ≤ 1 from by omega)⟩) (zI_bool (by omega)) dX12_makesTangent_132
          ·
            refine lv_aload_n hX0 hB0 dX12_makesTangent_100 rfl (lv_at hl 2 rfl) ?_
            refine lv_iload_n hX0 hB0 dX12_makesTangent_101 rfl (lv_at hl 1 rfl) ?_
            refine lv_iconst (v := zI 0) hX0 hB0 dX12_makesTangent_102 rfl ?_
            refine lv_iload hX0 hB0 dX12_makesTangent_103 (lv_at hl 0 rfl) ?_
            refine z_calli hW (va_runV (C := RX12) (As := [.int (zI z34), .int (zI 0), .int (zI z44)]) (rest := []) CX.fix (zk_isLine l o S19 z34 0 z44 hI19 (by constructor <;> omega) (by constructor <;> omega) (by constructor <;> omega)) (cwV 3 CX.fix.2.2.2.2 gX12_makesTangent_X12_isLine rfl rfl rfl (by decide +kernel) ⟨Nat.le_of_ble_eq_true rfl, Nat.le_of_ble_eq_true rfl⟩) (z_preV CX hW (r := (RX12, TX12, 37)) zMO_0 rfl) rfl rfl hl.1 rfl (lv_room (Nat.le_of_ble_eq_true rfl)) dX12_makesTangent_105 ⟨Nat.zero_le _, Nat.zero_le _⟩) (fun z105 gn H locs hok hW => ?_)
            obtain ⟨hz105, hg, hI105, hf105, hq105⟩ := hok
            obtain ⟨S105, hS105⟩ : ∃ q, q = (zm_isLine S19 z34 0 z44).2 := ⟨_, rfl⟩
            rw [← hS105] at hg hI105 hf105
            have t105_10 : S105 0 10 = S19 0 10 := hf105 0 10 (by omega)
            skip
            try rw [← hS105] at hq105
            rw [hg] at hW
            clear hg
            have e105 : zm_isLine S19 z34 0 z44 = (z105, S105) := Prod.ext hz105.symm hS105.symm
            clear hz105 hS105
            refine lv_goto (tgt := 132) hX0 hB0 dX12_makesTangent_108 (by decide) ?_
            have hE : zm_makesTangent S a pt = (z105, S105) := by unfold zm_makesTangent; exact zlet_e e2 (zif_f c_5 (zlet_e e10 (zif_f c_13 (zlet_e e19 (zif_t c_23 (zlet_e e34 (zlet_e e44 (zlet_e e51 (zif_t c_54 (zlet_e e92 (zif_t c_97 (zlet_e e105 rfl))))))))))))
            have hFr : ∀ kk ii : Nat, ¬ (kk = 3 ∧ 3500 ≤ (ii : Int)) → S105 kk ii = S kk ii := fun kk ii hk => ((hf105 kk ii (by omega))).trans (hf19 kk ii (by omega))
            rw [← hQ]
            exact z_iret (z := z105) CX hW (by rw [hE]; exact ⟨rfl, rfl, hI105, hFr, (show 0 ≤ z105 ∧ z105 ≤ 1 from by omega)⟩) (zI_bool (by omega)) dX12_makesTangent_132
        ·
          refine lv_aload_n hX0 hB0 dX12_makesTangent_57 rfl (lv_at hl 2 rfl) ?_
          refine lv_iload_n hX0 hB0 dX12_makesTangent_58 rfl (lv_at hl 1 rfl) ?_
          refine lv_iload hX0 hB0 dX12_makesTangent_59 (lv_at hl 0 rfl) ?_
          refine lv_aload_n hX0 hB0 dX12_makesTangent_61 rfl (lv_at hl 2 rfl) ?_
          refine lv_iload_n hX0 hB0 dX12_makesTangent_62 rfl (lv_at hl 1 rfl) ?_
          refine z_i2l CX dX12_makesTangent_63 (by constructor <;> omega) ?_
          refine z_lneg (z := -z34) CX dX12_makesTangent_64 rfl ?_
          refine lv_aload_n hX0 hB0 dX12_makesTangent_65 rfl (lv_at hl 2 rfl) ?_
          refine lv_iload_n hX0 hB0 dX12_makesTangent_66 rfl (lv_at hl 4 rfl) ?_
          refine z_calli hW (va_runV (C := RX12) (As := [.int (zI pt)]) (rest := [.long (zL (-z34)), .ref o, .int (zI z44), .int (zI z34), .ref o]) CX.fix (zk_xOf l o S19 pt hI19 (by constructor <;> omega)) (cwV 1 CX.fix.2.2.2.2 gX12_makesTangent_X12_xOf rfl rfl rfl (by decide +kernel) ⟨Nat.le_of_ble_eq_true rfl, Nat.le_of_ble_eq_true rfl⟩) (z_preV CX hW (r := (RX12, TX12, 37)) zMO_0 rfl) rfl rfl hl.1 rfl (lv_room (Nat.le_of_ble_eq_true rfl)) dX12_makesTangent_67 ⟨Nat.zero_le _, Nat.zero_le _⟩) (fun z67 gn H locs hok hW => ?_)
          obtain ⟨hz67, hg, hq67⟩ := hok
          rw [hg] at hW
          clear hg
          have e67 : zm_xOf S19 pt = z67 := hz67.symm
          clear hz67
          refine z_i2l CX dX12_makesTangent_70 (by constructor <;> omega) ?_
          refine z_lmul (z := (-z34) * z67) CX dX12_makesTangent_71 rfl ?_
          have hm71 := zbox_mul (a := -z34) (b := z67) (A := 30) (B := 992) (by constructor <;> omega) (by constructor <;> omega) (C := 29760) (by decide)
          refine lv_iload hX0 hB0 dX12_makesTangent_72 (lv_at hl 0 rfl) ?_
          refine z_i2l CX dX12_makesTangent_74 (by constructor <;> omega) ?_
          refine lv_aload_n hX0 hB0 dX12_makesTangent_75 rfl (lv_at hl 2 rfl) ?_
          refine lv_iload_n hX0 hB0 dX12_makesTangent_76 rfl (lv_at hl 4 rfl) ?_
          refine z_calli hW (va_runV (C := RX12) (As := [.int (zI pt)]) (rest := [.long (zL z44), .long (zL ((-z34) * z67)), .ref o, .int (zI z44), .int (zI z34), .ref o]) CX.fix (zk_yOf l o S19 pt hI19 (by constructor <;> omega)) (cwV 1 CX.fix.2.2.2.2 gX12_makesTangent_X12_yOf rfl rfl rfl (by decide +kernel) ⟨Nat.le_of_ble_eq_true rfl, Nat.le_of_ble_eq_true rfl⟩) (z_preV CX hW (r := (RX12, TX12, 37)) zMO_0 rfl) rfl rfl hl.1 rfl (lv_room (Nat.le_of_ble_eq_true rfl)) dX12_makesTangent_77 ⟨Nat.zero_le _, Nat.zero_le _⟩) (fun z77 gn H locs hok hW => ?_)
          obtain ⟨hz77, hg, hq77⟩ := hok
          rw [hg] at hW
          clear hg
          have e77 : zm_yOf S19 pt = z77 := hz77.symm
          clear hz77
          refine z_i2l CX dX12_makesTangent_80 (by constructor <;> omega) ?_
          refine z_lmul (z := z44 * z77) CX dX12_makesTangent_81 rfl ?_
          have hm81 := zbox_mul0 (a := z44) (b := z77) (A := 30) (B := 992) (by constructor <;> omega) (by constructor <;> omega) (C := 29760) (by decide)
          refine z_lsub (z := ((-z34) * z67) - (z44 * z77)) CX dX12_makesTangent_82 rfl ?_
          refine z_calli hW (va_runV (C := RX12) (As := [.long (zL (((-z34) * z67) - (z44 * z77)))]) (rest := [.int (zI z44), .int (zI z34), .ref o]) CX.fix (zk_modulo l o S19 (((-z34) * z67) - (z44 * z77)) hI19 (by constructor <;> omega)) (cwV 1 CX.fix.2.2.2.2 gX12_makesTangent_X12_modulo rfl rfl rfl (by decide +kernel) ⟨Nat.le_of_ble_eq_true rfl, Nat.le_of_ble_eq_true rfl⟩) (z_preV CX hW (r := (RX12, TX12, 37)) zMO_0 rfl) rfl rfl hl.1 rfl (lv_room (Nat.le_of_ble_eq_true rfl)) dX12_makesTangent_83 ⟨Nat.zero_le _, Nat.zero_le _⟩) (fun z83 gn H locs hok hW => ?_)
          obtain ⟨hz83, hg, hq83⟩ := hok
          rw [hg] at hW
          clear hg
          have e83 : zm_modulo S19 (((-z34) * z67) - (z44 * z77)) = z83 := hz83.symm
          clear hz83
          refine z_calli hW (va_runV (C := RX12) (As := [.int (zI z34), .int (zI z44), .int (zI z83)]) (rest := []) CX.fix (zk_isLine l o S19 z34 z44 z83 hI19 (by constructor <;> omega) (by constructor <;> omega) (by constructor <;> omega)) (cwV 3 CX.fix.2.2.2.2 gX12_makesTangent_X12_isLine rfl rfl rfl (by decide +kernel) ⟨Nat.le_of_ble_eq_true rfl, Nat.le_of_ble_eq_true rfl⟩) (z_preV CX hW (r := (RX12, TX12, 37)) zMO_0 rfl) rfl rfl hl.1 rfl (lv_room (Nat.le_of_ble_eq_true rfl)) dX12_makesTangent_86 ⟨Nat.zero_le _, Nat.zero_le _⟩) (fun z86 gn H locs hok hW => ?_)
          obtain ⟨hz86, hg, hI86, hf86, hq86⟩ := hok
          obtain ⟨S86, hS86⟩ : ∃ q, q = (zm_isLine S19 z34 z44 z83).2 := ⟨_, rfl⟩
          rw [← hS86] at hg hI86 hf86
          have t86_10 : S86 0 10 = S19 0 10 := hf86 0 10 (by omega)
          skip
          try rw [← hS86] at hq86
          rw [hg] at hW
          clear hg
          have e86 : zm_isLine S19 z34 z44 z83 = (z86, S86) := Prod.ext hz86.symm hS86.symm
          clear hz86 hS86
          have hE : zm_makesTangent S a pt = (z86, S86) := by unfold zm_makesTangent; exact zlet_e e2 (zif_f c_5 (zlet_e e10 (zif_f c_13 (zlet_e e19 (zif_t c_23 (zlet_e e34 (zlet_e e44 (zlet_e e51 (zif_f c_54 (zlet_e e67 (zlet_e e77 (zlet_e e83 (zlet_e e86 rfl)))))))))))))
          have hFr : ∀ kk ii : Nat, ¬ (kk = 3 ∧ 3500 ≤ (ii : Int)) → S86 kk ii = S kk ii := fun kk ii hk => ((hf86 kk ii (by omega))).trans (hf19 kk ii (by omega))
          rw [← hQ]
          exact z_iret (z := z86) CX hW (by rw [hE]; exact ⟨rfl, rfl, hI86, hFr, (show 0 ≤ z86 ∧ z86 ≤ 1 from by omega)⟩) (zI_bool (by omega)) dX12_makesTangent_89
      ·
        refine lv_iconst (v := zI 0) hX0 hB0 dX12_makesTangent_26 rfl ?_
        have hE : zm_makesTangent S a pt = (0, S19) := by unfold zm_makesTangent; exact zlet_e e2 (zif_f c_5 (zlet_e e10 (zif_f c_13 (zlet_e e19 (zif_f c_23 rfl)))))
        have hFr : ∀ kk ii : Nat, ¬ (kk = 3 ∧ 3500 ≤ (ii : Int)) → S19 kk ii = S kk ii := fun kk ii hk => (hf19 kk ii (by omega))
        rw [← hQ]
        exact z_iret (z := 0) CX hW (by rw [hE]; exact ⟨rfl, rfl, hI19, hFr, (show 0 ≤ (0 : Int) ∧ (0 : Int) ≤ 1 from by omega)⟩) rfl dX12_makesTangent_27
def zm_makesDerivative_J45 (b : Int) (i28 : Int) (i36 : Int) : Int := (if b = 0 then i28 else i36)
def zm_makesDerivative_L36 (a : Int) (b : Int) (i28 : Int) : Int → zS2 → zS2 := fun i36 s36 => (fun (S36 : zS2) => zlet (zm_makesDerivative_J45 b i28 i36) (fun n45j => (if n45j ≤ 0 then S36 else (if b = 0 then (if b = 0 then zlet (zm_cell S36 a i28 i36) (fun z97 => zlet (zm_sets S36 144 (i28 - 1) i36 (n45j * z97)) (fun S102 => S102)) else zlet (zm_cell S36 a i28 i36) (fun z97 => zlet (zm_sets S36 144 (i28 - 1) (i36 - 1) (n45j * z97)) (fun S102 => S102))) else (if b = 0 then zlet (zm_cell S36 a i28 i36) (fun z97 => zlet (zm_sets S36 144 i28 i36 (n45j * z97)) (fun S102 => S102)) else zlet (zm_cell S36 a i28 i36) (fun z97 => zlet (zm_sets S36 144 i28 (i36 - 1) (n45j * z97)) (fun S102 => S102))))))) s36
def zm_makesDerivative_L28 (a : Int) (b : Int) : Int → zS2 → zS2 := fun i28 s28 => (fun (S28 : zS2) => zlet (zfor (zm_makesDerivative_L36 a b i28) 0 S28 ((4 - i28) + 1 - 0).toNat) (fun S36 => S36)) s28
def zm_makesDerivative (S : zS2) (a : Int) (b : Int) : Int × zS2 := zlet (zm_isCurve S a) (fun z2 => (if z2 = 0 then (0, S) else zlet (zm_isIn b 0 1) (fun z11 => (if z11 = 0 then (0, S) else zlet (zm_empties S 144) (fun S23 => zlet (zfor (zm_makesDerivative_L28 a b) 0 S23 (4 + 1 - 0 : Int).toNat) (fun S28 => zlet (zm_degreeOf S28 144) (fun z121 => (if z121 ≤ 0 then (0, S28) else (1, S28)))))))))
set_option maxRecDepth 100000 in
set_option maxHeartbeats 4000000 in
theorem zk_makesDerivative (l : Launch) {D : va_G} {cI cJ cZ cP cS cM : ClassId} {L : List Nat} {sz : Nat} {f : Nat → va_E} (o : Nat) (S : zS2) (a : Int) (b : Int) (hI : mI S) (ha : -2147483648 ≤ a ∧ a ≤ 2147483647) (hb : -2147483648 ≤ b ∧ b ≤ 2147483647) : zMi l yX12_makesDerivative wsX12_makesDerivative 2 49 D (zT cI cJ cZ cP cS cM) L sz (zMO cI cJ o S f) [.ref o, .int (zI a), .int (zI b)] (fun zv gv => zv = (zm_makesDerivative S a b).1 ∧ gv = zMO cI cJ o (zm_makesDerivative S a b).2 f ∧ mI (zm_makesDerivative S a b).2 ∧ (∀ kk ii : Nat, ¬ (kk = 3 ∧ 3500 ≤ (ii : Int)) → (zm_makesDerivative S a b).2 kk ii = S kk ii) ∧ 0 ≤ zv ∧ zv ≤ 1) := by
  refine zWalk.met (nL := 6) (ret := (some .boolean)) (cc := cX12_makesDerivative) (by decide) rfl (Nat.le_of_ble_eq_true rfl) ?_
  intro pg en st mi ag bl mt cd ls CX hW hl
  have CX : zC pg st mi ag mt cd cX12_makesDerivative 6 (some .boolean) RX12 wsX12_makesDerivative := CX
  generalize hQ : MQ bl _ ag st 0 0 _ = Q
  have hX0 := CX.1
  have hB0 := CX.2.1
  have hl : lv_has ls 6 [(0, .ref o), (1, .int (zI a)), (2, .int (zI b))] := hl
  obtain ⟨H, eH⟩ : ∃ H, H = st.heap := ⟨_, rfl⟩
  obtain ⟨locs, eL⟩ : ∃ L : List Loc, L = [] := ⟨_, rfl⟩
  have hW : zW D (zT cI cJ cZ cP cS cM) L (zQ L sz) st (zMO cI cJ o S f) st.heap H locs := by rw [eH, eL]; exact hW
  suffices hgo : W pg l en ({ frames := 2, cells := 0, slots := 0, locals := 49 } : Room) st mi ag bl mt cd H locs 0 0 Q (F0 mi 0 ls []) by rw [eH, eL] at hgo; exact hgo
  clear eH eL
  have hpb := hI.s10
  refine lv_aload_n hX0 hB0 dX12_makesDerivative_0 rfl (lv_at hl 0 rfl) ?_
  refine lv_iload_n hX0 hB0 dX12_makesDerivative_1 rfl (lv_at hl 1 rfl) ?_
  refine z_calli hW (va_runV (C := RX12) (As := [.int (zI a)]) (rest := []) CX.fix (zk_isCurve l o S a hI (by constructor <;> omega)) (cwV 1 CX.fix.2.2.2.2 gX12_makesDerivative_X12_isCurve rfl rfl rfl (by decide +kernel) ⟨Nat.le_of_ble_eq_true rfl, Nat.le_of_ble_eq_true rfl⟩) (z_preV CX hW (r := (RX12, TX12, 37)) zMO_0 rfl) rfl rfl hl.1 rfl (lv_room (Nat.le_of_ble_eq_true rfl)) dX12_makesDerivative_2 ⟨Nat.zero_le _, Nat.zero_le _⟩) (fun z2 gn H locs hok hW => ?_)
  obtain ⟨hz2, hg, hq2⟩ := hok
  rw [hg] at hW
  clear hg
  have e2 : zm_isCurve S a = z2 := hz2.symm
  clear hz2
  refine z_if_eq (tgt := 17) CX dX12_makesDerivative_5 (by decide) (by constructor <;> omega) (fun c_5 => ?_) (fun c_5 => ?_)
  ·
    refine lv_iconst (v := zI 0) hX0 hB0 dX12_makesDerivative_17 rfl ?_
    have hE : zm_makesDerivative S a b = (0, S) := by unfold zm_makesDerivative; exact zlet_e e2 (zif_t c_5 rfl)
    have hFr : ∀ kk ii : Nat, ¬ (kk = 3 ∧ 3500 ≤ (ii : Int)) → S kk ii = S kk ii := fun kk ii hk => rfl
    rw [← hQ]
    exact z_iret (z := 0) CX hW (by rw [hE]; exact ⟨rfl, rfl, hI, hFr, (show 0 ≤ (0 : Int) ∧ (0 : Int) ≤ 1 from by omega)⟩) rfl dX12_makesDerivative_18
  ·
    refine lv_iload_n hX0 hB0 dX12_makesDerivative_8 rfl (lv_at hl 2 rfl) ?_
    refine lv_iconst (v := zI 0) hX0 hB0 dX12_makesDerivative_9 rfl ?_
    refine lv_iconst (v := zI 1) hX0 hB0 dX12_makesDerivative_10 rfl ?_
    refine z_calli hW (va_runS (As := [.int (zI b), .int (zI 0), .int (zI 1)]) (rest := []) CX.fix (zk_isIn l (f := zMO cI cJ o S f) b 0 1 (by constructor <;> omega) (by constructor <;> omega) (by constructor <;> omega)) (va_cwS 3 CX.fix.2.2.2.2 gX12_makesDerivative_X12_isIn rfl rfl rfl (by decide +kernel) ⟨Nat.le_of_ble_eq_true rfl, Nat.le_of_ble_eq_true rfl⟩) (z_preS CX hW) rfl rfl hl.1 rfl (lv_room (Nat.le_of_ble_eq_true rfl)) dX12_makesDerivative_11 ⟨Nat.zero_le _, Nat.zero_le _⟩) (fun z11 gn H locs hok hW => ?_)
    obtain ⟨hz11, hg, hq11⟩ := hok
    rw [hg] at hW
    clear hg
    have e11 : zm_isIn b 0 1 = z11 := hz11.symm
    clear hz11
    refine z_if_ne (tgt := 19) CX dX12_makesDerivative_14 (by decide) (by constructor <;> omega) (fun c_14 => ?_) (fun c_14 => ?_)
    ·
      refine lv_aload_n hX0 hB0 dX12_makesDerivative_19 rfl (lv_at hl 0 rfl) ?_
      refine lv_sipush (v := zI 144) hX0 hB0 dX12_makesDerivative_20 (by decide) ?_
      refine z_callv hW (va_runV (C := RX12) (As := [.int (zI 144)]) (rest := []) CX.fix (zk_empties l o S 144 hI (by constructor <;> omega)) (cwV 1 CX.fix.2.2.2.2 gX12_makesDerivative_X12_empties rfl rfl rfl (by decide +kernel) ⟨Nat.le_of_ble_eq_true rfl, Nat.le_of_ble_eq_true rfl⟩) (z_preV CX hW (r := (RX12, TX12, 37)) zMO_0 rfl) rfl rfl hl.1 rfl (lv_room (Nat.le_of_ble_eq_true rfl)) dX12_makesDerivative_23 ⟨Nat.zero_le _, Nat.zero_le _⟩) (fun gn H locs hok hW => ?_)
      obtain ⟨hg, hI23, hf23, hq23⟩ := hok
      obtain ⟨S23, e23⟩ : ∃ q, zm_empties S 144 = q := ⟨_, rfl⟩
      rw [e23] at hg hI23 hf23
      skip
      try rw [e23] at hq23
      rw [hg] at hW
      clear hg
      refine lv_iconst (v := zI 0) hX0 hB0 dX12_makesDerivative_26 rfl ?_
      refine lv_istore_n (lv' := [(3, .int (zI 0)), (0, .ref o), (1, .int (zI a)), (2, .int (zI b))]) hX0 hB0 dX12_makesDerivative_27 rfl hl (by decide) rfl (fun ls hl => ?_)
      have hL28 : ∀ (fu : Nat) (i28 : Int) (S28 : zS2), ((0 ≤ i28 ∧ i28 ≤ 4 + 1) ∧ zfor (zm_makesDerivative_L28 a b) 0 S23 (i28 - 0).toNat = S28 ∧ mI S28 ∧ (∀ kk ii : Nat, ¬ (kk = 3 ∧ 3500 ≤ (ii : Int)) → S28 kk ii = S23 kk ii)) → (4 + 1 - i28).toNat < fu → ∀ (H : Heap) (locs : List Loc) (ls : Array Slot), zW D (zT cI cJ cZ cP cS cM) L (zQ L sz) st (zMO cI cJ o S28 f) st.heap H locs → lv_has ls 6 [(3, .int (zI i28)), (0, .ref o), (1, .int (zI a)), (2, .int (zI b))] → W pg l en ({ frames := 2, cells := 0, slots := 0, locals := 49 } : Room) st mi ag bl mt cd H locs 0 0 Q (F0 mi 28 ls []) := by
        intro fu
        induction fu with
        | zero => intro i28 S28 _ hfu; exact absurd hfu (Nat.not_lt_zero _)
        | succ fu ih28 =>
          intro i28 S28 hinv hfu28 H locs ls hW hl
          obtain ⟨⟨hlo28, hhi28⟩, hz28, hI28, hf28⟩ := hinv
          have hp28 := hI28.s10
          refine lv_iload_n hX0 hB0 dX12_makesDerivative_28 rfl (lv_at hl 0 rfl) ?_
          refine lv_iconst (v := zI 4) hX0 hB0 dX12_makesDerivative_29 rfl ?_
          refine z_icmp_gt (tgt := 117) CX dX12_makesDerivative_30 (by decide) (by constructor <;> omega) (by constructor <;> omega) (fun c_30 => ?_) (fun c_30 => ?_)
          ·
            have e28 : zfor (zm_makesDerivative_L28 a b) 0 S23 (4 + 1 - 0 : Int).toNat = S28 := by rw [show (4 + 1 - 0 : Int).toNat = (i28 - 0).toNat by omega]; exact hz28
            refine lv_aload_n hX0 hB0 dX12_makesDerivative_117 rfl (lv_at hl 1 rfl) ?_
            refine lv_sipush (v := zI 144) hX0 hB0 dX12_makesDerivative_118 (by decide) ?_
            refine z_calli hW (va_runV (C := RX12) (As := [.int (zI 144)]) (rest := []) CX.fix (zk_degreeOf l o S28 144 hI28 (by constructor <;> omega)) (cwV 1 CX.fix.2.2.2.2 gX12_makesDerivative_X12_degreeOf rfl rfl rfl (by decide +kernel) ⟨Nat.le_of_ble_eq_true rfl, Nat.le_of_ble_eq_true rfl⟩) (z_preV CX hW (r := (RX12, TX12, 37)) zMO_0 rfl) rfl rfl hl.1 rfl (lv_room (Nat.le_of_ble_eq_true rfl)) dX12_makesDerivative_121 ⟨Nat.zero_le _, Nat.zero_le _⟩) (fun z121 gn H locs hok hW => ?_)
            obtain ⟨hz121, hg, hq121⟩ := hok
            rw [hg] at hW
            clear hg
            have e121 : zm_degreeOf S28 144 = z121 := hz121.symm
            clear hz121
            refine z_if_le (tgt := 131) CX dX12_makesDerivative_124 (by decide) (by constructor <;> omega) (fun c_124 => ?_) (fun c_124 => ?_)
            ·
              refine lv_iconst (v := zI 0) hX0 hB0 dX12_makesDerivative_131 rfl ?_
              have hE : zm_makesDerivative S a b = (0, S28) := by unfold zm_makesDerivative; exact zlet_e e2 (zif_f c_5 (zlet_e e11 (zif_f c_14 (zlet_e e23 (zlet_e e28 (zlet_e e121 (zif_t c_124 rfl)))))))
              have hFr : ∀ kk ii : Nat, ¬ (kk = 3 ∧ 3500 ≤ (ii : Int)) → S28 kk ii = S kk ii := fun kk ii hk => ((hf28 kk ii (by omega))).trans (hf23 kk ii (by omega))
              rw [← hQ]
              exact z_iret (z := 0) CX hW (by rw [hE]; exact ⟨rfl, rfl, hI28, hFr, (show 0 ≤ (0 : Int) ∧ (0 : Int) ≤ 1 from by omega)⟩) rfl dX12_makesDerivative_132
            ·
              have d_124 : ¬ z121 ≤ 0 := by omega
              refine lv_iconst (v := zI 1) hX0 hB0 dX12_makesDerivative_127 rfl ?_
              refine lv_goto (tgt := 132) hX0 hB0 dX12_makesDerivative_128 (by decide) ?_
              have hE : zm_makesDerivative S a b = (1, S28) := by unfold zm_makesDerivative; exact zlet_e e2 (zif_f c_5 (zlet_e e11 (zif_f c_14 (zlet_e e23 (zlet_e e28 (zlet_e e121 (zif_f d_124 rfl)))))))
              have hFr : ∀ kk ii : Nat, ¬ (kk = 3 ∧ 3500 ≤ (ii : Int)) → S28 kk ii = S kk ii := fun kk ii hk => ((hf28 kk ii (by omega))).trans (hf23 kk ii (by omega))
              rw [← hQ]
              exact z_iret (z := 1) CX hW (by rw [hE]; exact ⟨rfl, rfl, hI28, hFr, (show 0 ≤ (1 : Int) ∧ (1 : Int) ≤ 1 from by omega)⟩) rfl dX12_makesDerivative_132
          ·
            refine lv_iconst (v := zI 0) hX0 hB0 dX12_makesDerivative_33 rfl ?_
            refine lv_istore (lv' := [(4, .int (zI 0)), (3, .int (zI i28)), (0, .ref o), (1, .int (zI a)), (2, .int (zI b))]) hX0 hB0 dX12_makesDerivative_34 hl (by decide) rfl (fun ls hl => ?_)
            have hL36 : ∀ (fu : Nat) (i36 : Int) (S36 : zS2), ((0 ≤ i36 ∧ i36 ≤ 4 - i28 + 1) ∧ zfor (zm_makesDerivative_L36 a b i28) 0 S28 (i36 - 0).toNat = S36 ∧ mI S36 ∧ (∀ kk ii : Nat, ¬ (kk = 3 ∧ 3500 ≤ (ii : Int)) → S36 kk ii = S28 kk ii)) → ((4 - i28) + 1 - i36).toNat < fu → ∀ (H : Heap) (locs : List Loc) (ls : Array Slot), zW D (zT cI cJ cZ cP cS cM) L (zQ L sz) st (zMO cI cJ o S36 f) st.heap H locs → lv_has ls 6 [(4, .int (zI i36)), (3, .int (zI i28)), (0, .ref o), (1, .int (zI a)), (2, .int (zI b))] → W pg l en ({ frames := 2, cells := 0, slots := 0, locals := 49 } : Room) st mi ag bl mt cd H locs 0 0 Q (F0 mi 36 ls []) := by
              intro fu
              induction fu with
              | zero => intro i36 S36 _ hfu; exact absurd hfu (Nat.not_lt_zero _)
              | succ fu ih36 =>
                intro i36 S36 hinv hfu36 H locs ls hW hl
                obtain ⟨⟨hlo36, hhi36⟩, hz36, hI36, hf36⟩ := hinv
                have hp36 := hI36.s10
                refine lv_iload_n hX0 hB0 dX12_makesDerivative_36 rfl (lv_at hl 1 rfl) ?_
                refine lv_iload hX0 hB0 dX12_makesDerivative_37 (lv_at hl 0 rfl) ?_
                refine z_iadd (z := i28 + i36) CX dX12_makesDerivative_39 rfl ?_
                refine lv_iconst (v := zI 4) hX0 hB0 dX12_makesDerivative_40 rfl ?_
                refine z_icmp_gt (tgt := 111) CX dX12_makesDerivative_41 (by decide) (by constructor <;> omega) (by constructor <;> omega) (fun c_41 => ?_) (fun c_41 => ?_)
                ·
                  have e36 : zfor (zm_makesDerivative_L36 a b i28) 0 S28 ((4 - i28) + 1 - 0).toNat = S36 := by rw [show ((4 - i28) + 1 - 0).toNat = (i36 - 0).toNat by omega]; exact hz36
                  refine lv_iinc (v := zI (i28 + 1)) (lv' := [(3, .int (zI (i28 + 1))), (4, .int (zI i36)), (0, .ref o), (1, .int (zI a)), (2, .int (zI b))]) hX0 hB0 dX12_makesDerivative_111 hl (k := 1) rfl (zI_add _ _) (by decide) rfl (fun ls hl => ?_)
                  refine lv_goto (tgt := 28) hX0 hB0 dX12_makesDerivative_114 (by decide) ?_
                  exact ih28 (i28 + 1) S36 ⟨⟨by omega, by omega⟩, (zfor_s _ _ _ (by omega)).trans ((congrArg (zm_makesDerivative_L28 a b i28) hz28).trans (by unfold zm_makesDerivative_L28; exact zlet_e e36 rfl)), hI36, fun kk ii hk => ((hf36 kk ii (by omega))).trans (hf28 kk ii (by omega))⟩ (by omega) H locs ls hW (lv_sub hl [0, 2, 3, 4] rfl)
                ·
                  refine lv_iload_n hX0 hB0 dX12_makesDerivative_44 rfl (lv_at hl 4 rfl) ?_
                  have hJ45 : ∀ (n45j : Int), (zm_makesDerivative_J45 b i28 i36 = n45j ∧ 0 ≤ n45j ∧ n45j ≤ 4 ∧ ((b = 0 → n45j = i28) ∧ (b ≠ 0 → n45j = i36))) → ∀ (H : Heap) (locs : List Loc) (ls : Array Slot), zW D (zT cI cJ cZ cP cS cM) L (zQ L sz) st (zMO cI cJ o S36 f) st.heap H locs → lv_has ls 6 [(4, .int (zI i36)), (3, .int (zI i28)), (0, .ref o), (1, .int (zI a)), (2, .int (zI b))] → W pg l en ({ frames := 2, cells := 0, slots := 0, locals := 49 } : Room) st mi ag bl mt cd H locs 0 0 Q (F0 mi 54 ls [.int (zI n45j)]) := by
                    intro n45j hinv H locs ls hW hl
                    obtain ⟨e45j, han45j, hbn45j, hv45j⟩ := hinv
                    refine lv_istore (lv' := [(5, .int (zI n45j)), (4, .int (zI i36)), (3, .int (zI i28)), (0, .ref o), (1, .int (zI a)), (2, .int (zI b))]) hX0 hB0 dX12_makesDerivative_54 hl (by decide) rfl (fun ls hl => ?_)
                    refine lv_iload hX0 hB0 dX12_makesDerivative_56 (lv_at hl 0 rfl) ?_
                    refine z_if_le (tgt := 105) CX dX12_makesDerivative_58 (by decide) (by constructor <;> omega) (fun c_58 => ?_) (fun c_58 => ?_)
                    ·
                      refine lv_iinc (v := zI (i36 + 1)) (lv' := [(4, .int (zI (i36 + 1))), (5, .int (zI n45j)), (3, .int (zI i28)), (0, .ref o), (1, .int (zI a)), (2, .int (zI b))]) hX0 hB0 dX12_makesDerivative_105 hl (k := 1) rfl (zI_add _ _) (by decide) rfl (fun ls hl => ?_)
                      refine lv_goto (tgt := 36) hX0 hB0 dX12_makesDerivative_108 (by decide) ?_
                      exact ih36 (i36 + 1) S36 ⟨⟨by omega, by omega⟩, (zfor_s _ _ _ (by omega)).trans ((congrArg (zm_makesDerivative_L36 a b i28 i36) hz36).trans (by unfold zm_makesDerivative_L36; exact zlet_e e45j (zif_t c_58 rfl))), hI36, fun kk ii hk => (hf36 kk ii (by omega))⟩ (by omega) H locs ls hW (lv_sub hl [0, 2, 3, 4, 5] rfl)
                    ·
                      have d_58 : ¬ n45j ≤ 0 := by omega
                      refine lv_aload_n hX0 hB0 dX12_makesDerivative_61 rfl (lv_at hl 3 rfl) ?_
                      refine lv_sipush (v := zI 144) hX0 hB0 dX12_makesDerivative_62 (by decide) ?_
                      refine lv_iload_n hX0 hB0 dX12_makesDerivative_65 rfl (lv_at hl 5 rfl) ?_
                      refine z_if_ne (tgt := 75) CX dX12_makesDerivative_66 (by decide) (by constructor <;> omega) (fun c_66 => ?_) (fun c_66 => ?_)
                      ·
                        refine lv_iload_n hX0 hB0 dX12_makesDerivative_75 rfl (lv_at hl 2 rfl) ?_
                        refine lv_iload_n hX0 hB0 dX12_makesDerivative_76 rfl (lv_at hl 5 rfl) ?_
                        refine z_if_ne (tgt := 85) CX dX12_makesDerivative_77 (by decide) (by constructor <;> omega) (fun c_77 => ?_) (fun c_77 => ?_)
                        ·
                          refine lv_iload hX0 hB0 dX12_makesDerivative_85 (lv_at hl 1 rfl) ?_
                          refine lv_iconst (v := zI 1) hX0 hB0 dX12_makesDerivative_87 rfl ?_
                          refine z_isub (z := i36 - 1) CX dX12_makesDerivative_88 rfl ?_
                          refine lv_iload hX0 hB0 dX12_makesDerivative_89 (lv_at hl 0 rfl) ?_
                          refine z_i2l CX dX12_makesDerivative_91 (by constructor <;> omega) ?_
                          refine lv_aload_n hX0 hB0 dX12_makesDerivative_92 rfl (lv_at hl 3 rfl) ?_
                          refine lv_iload_n hX0 hB0 dX12_makesDerivative_93 rfl (lv_at hl 4 rfl) ?_
                          refine lv_iload_n hX0 hB0 dX12_makesDerivative_94 rfl (lv_at hl 2 rfl) ?_
                          refine lv_iload hX0 hB0 dX12_makesDerivative_95 (lv_at hl 1 rfl) ?_
                          refine z_calli hW (va_runV (C := RX12) (As := [.int (zI a), .int (zI i28), .int (zI i36)]) (rest := [.long (zL n45j), .int (zI (i36 - 1)), .int (zI i28), .int (zI 144), .ref o]) CX.fix (zk_cell l o S36 a i28 i36 hI36 (by constructor <;> omega) (by constructor <;> omega) (by constructor <;> omega)) (cwV 3 CX.fix.2.2.2.2 gX12_makesDerivative_X12_cell rfl rfl rfl (by decide +kernel) ⟨Nat.le_of_ble_eq_true rfl, Nat.le_of_ble_eq_true rfl⟩) (z_preV CX hW (r := (RX12, TX12, 37)) zMO_0 rfl) rfl rfl hl.1 rfl (lv_room (Nat.le_of_ble_eq_true rfl)) dX12_makesDerivative_97 ⟨Nat.zero_le _, Nat.zero_le _⟩) (fun z97 gn H locs hok hW => ?_)
                          obtain ⟨hz97, hg, hq97⟩ := hok
                          rw [hg] at hW
                          clear hg
                          have e97 : zm_cell S36 a i28 i36 = z97 := hz97.symm
                          clear hz97
                          refine z_i2l CX dX12_makesDerivative_100 (by constructor <;> omega) ?_
                          refine z_lmul (z := n45j * z97) CX dX12_makesDerivative_101 rfl ?_
                          have hm101 := zbox_mul0 (a := n45j) (b := z97) (A := 4) (B := 30) (by constructor <;> omega) (by constructor <;> omega) (C := 120) (by decide)
                          refine z_callv hW (va_runV (C := RX12) (As := [.int (zI 144), .int (zI i28), .int (zI (i36 - 1)), .long (zL (n45j * z97))]) (rest := []) CX.fix (zk_sets l o S36 144 i28 (i36 - 1) (n45j * z97) hI36 (by constructor <;> omega) (by constructor <;> omega) (by constructor <;> omega) (by constructor <;> omega)) (cwV 4 CX.fix.2.2.2.2 gX12_makesDerivative_X12_sets rfl rfl rfl (by decide +kernel) ⟨Nat.le_of_ble_eq_true rfl, Nat.le_of_ble_eq_true rfl⟩) (z_preV CX hW (r := (RX12, TX12, 37)) zMO_0 rfl) rfl rfl hl.1 rfl (lv_room (Nat.le_of_ble_eq_true rfl)) dX12_makesDerivative_102 ⟨Nat.zero_le _, Nat.zero_le _⟩) (fun gn H locs hok hW => ?_)
                          obtain ⟨hg, hI102, hf102, hq102⟩ := hok
                          obtain ⟨S102, e102⟩ : ∃ q, zm_sets S36 144 i28 (i36 - 1) (n45j * z97) = q := ⟨_, rfl⟩
                          rw [e102] at hg hI102 hf102
                          skip
                          try rw [e102] at hq102
                          rw [hg] at hW
                          clear hg
                          refine lv_iinc (v := zI (i36 + 1)) (lv' := [(4, .int (zI (i36 + 1))), (5, .int (zI n45j)), (3, .int (zI i28)), (0, .ref o), (1, .int (zI a)), (2, .int (zI b))]) hX0 hB0 dX12_makesDerivative_105 hl (k := 1) rfl (zI_add _ _) (by decide) rfl (fun ls hl => ?_)
                          refine lv_goto (tgt := 36) hX0 hB0 dX12_makesDerivative_108 (by decide) ?_
                          exact ih36 (i36 + 1) S102 ⟨⟨by omega, by omega⟩, (zfor_s _ _ _ (by omega)).trans ((congrArg (zm_makesDerivative_L36 a b i28 i36) hz36).trans (by unfold zm_makesDerivative_L36; exact zlet_e e45j (zif_f d_58 (zif_f c_66 (zif_f c_77 (zlet_e e97 (zlet_e e102 rfl))))))), hI102, fun kk ii hk => ((hf102 kk ii (by omega))).trans (hf36 kk ii (by omega))⟩ (by omega) H locs ls hW (lv_sub hl [0, 2, 3, 4, 5] rfl)
                        ·
                          refine lv_iload hX0 hB0 dX12_makesDerivative_80 (lv_at hl 1 rfl) ?_
                          refine lv_goto (tgt := 89) hX0 hB0 dX12_makesDerivative_82 (by decide) ?_
                          refine lv_iload hX0 hB0 dX12_makesDerivative_89 (lv_at hl 0 rfl) ?_
                          refine z_i2l CX dX12_makesDerivative_91 (by constructor <;> omega) ?_
                          refine lv_aload_n hX0 hB0 dX12_makesDerivative_92 rfl (lv_at hl 3 rfl) ?_
                          refine lv_iload_n hX0 hB0 dX12_makesDerivative_93 rfl (lv_at hl 4 rfl) ?_
                          refine lv_iload_n hX0 hB0 dX12_makesDerivative_94 rfl (lv_at hl 2 rfl) ?_
                          refine lv_iload hX0 hB0 dX12_makesDerivative_95 (lv_at hl 1 rfl) ?_
                          refine z_calli hW (va_runV (C := RX12) (As := [.int (zI a), .int (zI i28), .int (zI i36)]) (rest := [.long (zL n45j), .int (zI i36), .int (zI i28), .int (zI 144), .ref o]) CX.fix (zk_cell l o S36 a i28 i36 hI36 (by constructor <;> omega) (by constructor <;> omega) (by constructor <;> omega)) (cwV 3 CX.fix.2.2.2.2 gX12_makesDerivative_X12_cell rfl rfl rfl (by decide +kernel) ⟨Nat.le_of_ble_eq_true rfl, Nat.le_of_ble_eq_true rfl⟩) (z_preV CX hW (r := (RX12, TX12, 37)) zMO_0 rfl) rfl rfl hl.1 rfl (lv_room (Nat.le_of_ble_eq_true rfl)) dX12_makesDerivative_97 ⟨Nat.zero_le _, Nat.zero_le _⟩) (fun z97 gn H locs hok hW => ?_)
                          obtain ⟨hz97, hg, hq97⟩ := hok
                          rw [hg] at hW
                          clear hg
                          have e97 : zm_cell S36 a i28 i36 = z97 := hz97.symm
                          clear hz97
                          refine z_i2l CX dX12_makesDerivative_100 (by constructor <;> omega) ?_
                          refine z_lmul (z := n45j * z97) CX dX12_makesDerivative_101 rfl ?_
                          have hm101 := zbox_mul0 (a := n45j) (b := z97) (A := 4) (B := 30) (by constructor <;> omega) (by constructor <;> omega) (C := 120) (by decide)
                          refine z_callv hW (va_runV (C := RX12) (As := [.int (zI 144), .int (zI i28), .int (zI i36), .long (zL (n45j * z97))]) (rest := []) CX.fix (zk_sets l o S36 144 i28 i36 (n45j * z97) hI36 (by constructor <;> omega) (by constructor <;> omega) (by constructor <;> omega) (by constructor <;> omega)) (cwV 4 CX.fix.2.2.2.2 gX12_makesDerivative_X12_sets rfl rfl rfl (by decide +kernel) ⟨Nat.le_of_ble_eq_true rfl, Nat.le_of_ble_eq_true rfl⟩) (z_preV CX hW (r := (RX12, TX12, 37)) zMO_0 rfl) rfl rfl hl.1 rfl (lv_room (Nat.le_of_ble_eq_true rfl)) dX12_makesDerivative_102 ⟨Nat.zero_le _, Nat.zero_le _⟩) (fun gn H locs hok hW => ?_)
                          obtain ⟨hg, hI102, hf102, hq102⟩ := hok
                          obtain ⟨S102, e102⟩ : ∃ q, zm_sets S36 144 i28 i36 (n45j * z97) = q := ⟨_, rfl⟩
                          rw [e102] at hg hI102 hf102
                          skip
                          try rw [e102] at hq102
                          rw [hg] at hW
                          clear hg
                          refine lv_iinc (v := zI (i36 + 1)) (lv' := [(4, .int (zI (i36 + 1))), (5, .int (zI n45j)), (3, .int (zI i28)), (0, .ref o), (1, .int (zI a)), (2, .int (zI b))]) hX0 hB0 dX12_makesDerivative_105 hl (k := 1) rfl (zI_add _ _) (by decide) rfl (fun ls hl => ?_)
                          refine lv_goto (tgt := 36) hX0 hB0 dX12_makesDerivative_108 (by decide) ?_
                          exact ih36 (i36 + 1) S102 ⟨⟨by omega, by omega⟩, (zfor_s _ _ _ (by omega)).trans ((congrArg (zm_makesDerivative_L36 a b i28 i36) hz36).trans (by unfold zm_makesDerivative_L36; exact zlet_e e45j (zif_f d_58 (zif_f c_66 (zif_t c_77 (zlet_e e97 (zlet_e e102 rfl))))))), hI102, fun kk ii hk => ((hf102 kk ii (by omega))).trans (hf36 kk ii (by omega))⟩ (by omega) H locs ls hW (lv_sub hl [0, 2, 3, 4, 5] rfl)
                      ·
                        refine lv_iload_n hX0 hB0 dX12_makesDerivative_69 rfl (lv_at hl 2 rfl) ?_
                        refine lv_iconst (v := zI 1) hX0 hB0 dX12_makesDerivative_70 rfl ?_
                        refine z_isub (z := i28 - 1) CX dX12_makesDerivative_71 rfl ?_
                        refine lv_goto (tgt := 76) hX0 hB0 dX12_makesDerivative_72 (by decide) ?_
                        refine lv_iload_n hX0 hB0 dX12_makesDerivative_76 rfl (lv_at hl 5 rfl) ?_
                        refine z_if_ne (tgt := 85) CX dX12_makesDerivative_77 (by decide) (by constructor <;> omega) (fun c_77 => ?_) (fun c_77 => ?_)
                        ·
                          refine lv_iload hX0 hB0 dX12_makesDerivative_85 (lv_at hl 1 rfl) ?_
                          refine lv_iconst (v := zI 1) hX0 hB0 dX12_makesDerivative_87 rfl ?_
                          refine z_isub (z := i36 - 1) CX dX12_makesDerivative_88 rfl ?_
                          refine lv_iload hX0 hB0 dX12_makesDerivative_89 (lv_at hl 0 rfl) ?_
                          refine z_i2l CX dX12_makesDerivative_91 (by constructor <;> omega) ?_
                          refine lv_aload_n hX0 hB0 dX12_makesDerivative_92 rfl (lv_at hl 3 rfl) ?_
                          refine lv_iload_n hX0 hB0 dX12_makesDerivative_93 rfl (lv_at hl 4 rfl) ?_
                          refine lv_iload_n hX0 hB0 dX12_makesDerivative_94 rfl (lv_at hl 2 rfl) ?_
                          refine lv_iload hX0 hB0 dX12_makesDerivative_95 (lv_at hl 1 rfl) ?_
                          refine z_calli hW (va_runV (C := RX12) (As := [.int (zI a), .int (zI i28), .int (zI i36)]) (rest := [.long (zL n45j), .int (zI (i36 - 1)), .int (zI (i28 - 1)), .int (zI 144), .ref o]) CX.fix (zk_cell l o S36 a i28 i36 hI36 (by constructor <;> omega) (by constructor <;> omega) (by constructor <;> omega)) (cwV 3 CX.fix.2.2.2.2 gX12_makesDerivative_X12_cell rfl rfl rfl (by decide +kernel) ⟨Nat.le_of_ble_eq_true rfl, Nat.le_of_ble_eq_true rfl⟩) (z_preV CX hW (r := (RX12, TX12, 37)) zMO_0 rfl) rfl rfl hl.1 rfl (lv_room (Nat.le_of_ble_eq_true rfl)) dX12_makesDerivative_97 ⟨Nat.zero_le _, Nat.zero_le _⟩) (fun z97 gn H locs hok hW => ?_)
                          obtain ⟨hz97, hg, hq97⟩ := hok
                          rw [hg] at hW
                          clear hg
                          have e97 : zm_cell S36 a i28 i36 = z97 := hz97.symm
                          clear hz97
                          refine z_i2l CX dX12_makesDerivative_100 (by constructor <;> omega) ?_
                          refine z_lmul (z := n45j * z97) CX dX12_makesDerivative_101 rfl ?_
                          have hm101 := zbox_mul0 (a := n45j) (b := z97) (A := 4) (B := 30) (by constructor <;> omega) (by constructor <;> omega) (C := 120) (by decide)
                          refine z_callv hW (va_runV (C := RX12) (As := [.int (zI 144), .int (zI (i28 - 1)), .int (zI (i36 - 1)), .long (zL (n45j * z97))]) (rest := []) CX.fix (zk_sets l o S36 144 (i28 - 1) (i36 - 1) (n45j * z97) hI36 (by constructor <;> omega) (by constructor <;> omega) (by constructor <;> omega) (by constructor <;> omega)) (cwV 4 CX.fix.2.2.2.2 gX12_makesDerivative_X12_sets rfl rfl rfl (by decide +kernel) ⟨Nat.le_of_ble_eq_true rfl, Nat.le_of_ble_eq_true rfl⟩) (z_preV CX hW (r := (RX12, TX12, 37)) zMO_0 rfl) rfl rfl hl.1 rfl (lv_room (Nat.le_of_ble_eq_true rfl)) dX12_makesDerivative_102 ⟨Nat.zero_le _, Nat.zero_le _⟩) (fun gn H locs hok hW => ?_)
                          obtain ⟨hg, hI102, hf102, hq102⟩ := hok
                          obtain ⟨S102, e102⟩ : ∃ q, zm_sets S36 144 (i28 - 1) (i36 - 1) (n45j * z97) = q := ⟨_, rfl⟩
                          rw [e102] at hg hI102 hf102
                          skip
                          try rw [e102] at hq102
                          rw [hg] at hW
                          clear hg
                          refine lv_iinc (v := zI (i36 + 1)) (lv' := [(4, .int (zI (i36 + 1))), (5, .int (zI n45j)), (3, .int (zI i28)), (0, .ref o), (1, .int (zI a)), (2, .int (zI b))]) hX0 hB0 dX12_makesDerivative_105 hl (k := 1) rfl (zI_add _ _) (by decide) rfl (fun ls hl => ?_)
                          refine lv_goto (tgt := 36) hX0 hB0 dX12_makesDerivative_108 (by decide) ?_
                          exact ih36 (i36 + 1) S102 ⟨⟨by omega, by omega⟩, (zfor_s _ _ _ (by omega)).trans ((congrArg (zm_makesDerivative_L36 a b i28 i36) hz36).trans (by unfold zm_makesDerivative_L36; exact zlet_e e45j (zif_f d_58 (zif_t c_66 (zif_f c_77 (zlet_e e97 (zlet_e e102 rfl))))))), hI102, fun kk ii hk => ((hf102 kk ii (by omega))).trans (hf36 kk ii (by omega))⟩ (by omega) H locs ls hW (lv_sub hl [0, 2, 3, 4, 5] rfl)
                        ·
                          refine lv_iload hX0 hB0 dX12_makesDerivative_80 (lv_at hl 1 rfl) ?_
                          refine lv_goto (tgt := 89) hX0 hB0 dX12_makesDerivative_82 (by decide) ?_
                          refine lv_iload hX0 hB0 dX12_makesDerivative_89 (lv_at hl 0 rfl) ?_
                          refine z_i2l CX dX12_makesDerivative_91 (by constructor <;> omega) ?_
                          refine lv_aload_n hX0 hB0 dX12_makesDerivative_92 rfl (lv_at hl 3 rfl) ?_
                          refine lv_iload_n hX0 hB0 dX12_makesDerivative_93 rfl (lv_at hl 4 rfl) ?_
                          refine lv_iload_n hX0 hB0 dX12_makesDerivative_94 rfl (lv_at hl 2 rfl) ?_
                          refine lv_iload hX0 hB0 dX12_makesDerivative_95 (lv_at hl 1 rfl) ?_
                          refine z_calli hW (va_runV (C := RX12) (As := [.int (zI a), .int (zI i28), .int (zI i36)]) (rest := [.long (zL n45j), .int (zI i36), .int (zI (i28 - 1)), .int (zI 144), .ref o]) CX.fix (zk_cell l o S36 a i28 i36 hI36 (by constructor <;> omega) (by constructor <;> omega) (by constructor <;> omega)) (cwV 3 CX.fix.2.2.2.2 gX12_makesDerivative_X12_cell rfl rfl rfl (by decide +kernel) ⟨Nat.le_of_ble_eq_true rfl, Nat.le_of_ble_eq_true rfl⟩) (z_preV CX hW (r := (RX12, TX12, 37)) zMO_0 rfl) rfl rfl hl.1 rfl (lv_room (Nat.le_of_ble_eq_true rfl)) dX12_makesDerivative_97 ⟨Nat.zero_le _, Nat.zero_le _⟩) (fun z97 gn H locs hok hW => ?_)
                          obtain ⟨hz97, hg, hq97⟩ := hok
                          rw [hg] at hW
                          clear hg
                          have e97 : zm_cell S36 a i28 i36 = z97 := hz97.symm
                          clear hz97
                          refine z_i2l CX dX12_makesDerivative_100 (by constructor <;> omega) ?_
                          refine z_lmul (z := n45j * z97) CX dX12_makesDerivative_101 rfl ?_
                          have hm101 := zbox_mul0 (a := n45j) (b := z97) (A := 4) (B := 30) (by constructor <;> omega) (by constructor <;> omega) (C := 120) (by decide)
                          refine z_callv hW (va_runV (C := RX12) (As := [.int (zI 144), .int (zI (i28 - 1)), .int (zI i36), .long (zL (n45j * z97))]) (rest := []) CX.fix (zk_sets l o S36 144 (i28 - 1) i36 (n45j * z97) hI36 (by constructor <;> omega) (by constructor <;> omega) (by constructor <;> omega) (by constructor <;> omega)) (cwV 4 CX.fix.2.2.2.2 gX12_makesDerivative_X12_sets rfl rfl rfl (by decide +kernel) ⟨Nat.le_of_ble_eq_true rfl, Nat.le_of_ble_eq_true rfl⟩) (z_preV CX hW (r := (RX12, TX12, 37)) zMO_0 rfl) rfl rfl hl.1 rfl (lv_room (Nat.le_of_ble_eq_true rfl)) dX12_makesDerivative_102 ⟨Nat.zero_le _, Nat.zero_le _⟩) (fun gn H locs hok hW => ?_)
                          obtain ⟨hg, hI102, hf102, hq102⟩ := hok
                          obtain ⟨S102, e102⟩ : ∃ q, zm_sets S36 144 (i28 - 1) i36 (n45j * z97) = q := ⟨_, rfl⟩
                          rw [e102] at hg hI102 hf102
                          skip
                          try rw [e102] at hq102
                          rw [hg] at hW
                          clear hg
                          refine lv_iinc (v := zI (i36 + 1)) (lv' := [(4, .int (zI (i36 + 1))), (5, .int (zI n45j)), (3, .int (zI i28)), (0, .ref o), (1, .int (zI a)), (2, .int (zI b))]) hX0 hB0 dX12_makesDerivative_105 hl (k := 1) rfl (zI_add _ _) (by decide) rfl (fun ls hl => ?_)
                          refine lv_goto (tgt := 36) hX0 hB0 dX12_makesDerivative_108 (by decide) ?_
                          exact ih36 (i36 + 1) S102 ⟨⟨by omega, by omega⟩, (zfor_s _ _ _ (by omega)).trans ((congrArg (zm_makesDerivative_L36 a b i28 i36) hz36).trans (by unfold zm_makesDerivative_L36; exact zlet_e e45j (zif_f d_58 (zif_t c_66 (zif_t c_77 (zlet_e e97 (zlet_e e102 rfl))))))), hI102, fun kk ii hk => ((hf102 kk ii (by omega))).trans (hf36 kk ii (by omega))⟩ (by omega) H locs ls hW (lv_sub hl [0, 2, 3, 4, 5] rfl)
                  refine z_if_ne (tgt := 52) CX dX12_makesDerivative_45 (by decide) (by constructor <;> omega) (fun c_45 => ?_) (fun c_45 => ?_)
                  ·
                    refine lv_iload hX0 hB0 dX12_makesDerivative_52 (lv_at hl 0 rfl) ?_
                    exact hJ45 i36 ⟨(by unfold zm_makesDerivative_J45; exact zif_f c_45 rfl), by omega, by omega, ⟨by omega, by omega⟩⟩ H locs ls hW (lv_sub hl [0, 1, 2, 3, 4] rfl)
                  ·
                    refine lv_iload_n hX0 hB0 dX12_makesDerivative_48 rfl (lv_at hl 1 rfl) ?_
                    refine lv_goto (tgt := 54) hX0 hB0 dX12_makesDerivative_49 (by decide) ?_
                    exact hJ45 i28 ⟨(by unfold zm_makesDerivative_J45; exact zif_t c_45 rfl), by omega, by omega, ⟨by omega, by omega⟩⟩ H locs ls hW (lv_sub hl [0, 1, 2, 3, 4] rfl)
            exact hL36 _ 0 S28 ⟨⟨by omega, by omega⟩, zfor_0 _ _ _, hI28, fun kk ii hk => rfl⟩ (Nat.lt_succ_self _) H locs ls hW (lv_sub hl [0, 1, 2, 3, 4] rfl)
      exact hL28 _ 0 S23 ⟨⟨by omega, by omega⟩, zfor_0 _ _ _, hI23, fun kk ii hk => rfl⟩ (Nat.lt_succ_self _) H locs ls hW (lv_sub hl [0, 1, 2, 3] rfl)
    ·
      refine lv_iconst (v := zI 0) hX0 hB0 dX12_makesDerivative_17 rfl ?_
      have hE : zm_makesDerivative S a b = (0, S) := by unfold zm_makesDerivative; exact zlet_e e2 (zif_f c_5 (zlet_e e11 (zif_t c_14 rfl)))
      have hFr : ∀ kk ii : Nat, ¬ (kk = 3 ∧ 3500 ≤ (ii : Int)) → S kk ii = S kk ii := fun kk ii hk => rfl
      rw [← hQ]
      exact z_iret (z := 0) CX hW (by rw [hE]; exact ⟨rfl, rfl, hI, hFr, (show 0 ≤ (0 : Int) ∧ (0 : Int) ≤ 1 from by omega)⟩) rfl dX12_makesDerivative_18
def zm_makes (S : zS2) (a : Int) (b : Int) (how : Int) (t : Int) : Int × zS2 := (if how = 0 then zlet (zm_areCurves S a b) (fun z43 => (if z43 = 0 then (0, S) else zlet (zm_multiplies S 144 a b) (fun q55 => (fun (z55 : Int) (S55 : zS2) => (if z55 = 0 then (0, S55) else (1, S55))) q55.1 q55.2))) else (if how = 1 then zlet (zm_areCurves S a b) (fun z70 => (if z70 = 0 then (0, S) else zlet (zm_copies S 144 a) (fun S83 => zlet (zm_modulo S83 t) (fun z95 => zlet (zm_adds S83 144 b z95) (fun S99 => zlet (zm_degreeOf S99 144) (fun z106 => (if z106 ≤ 0 then (0, S99) else (1, S99)))))))) else (if how = 2 then zlet (zm_areCurves S a b) (fun z121 => (if z121 = 0 then (0, S) else zlet (zm_laysCommon S a b) (fun S132 => zlet (zm_copies S132 144 143) (fun S142 => zlet (zm_degreeOf S142 144) (fun z149 => (if z149 ≤ 0 then (0, S142) else (1, S142))))))) else (if how = 3 then zlet (zm_makesLine S a b) (fun q164 => (fun (z164 : Int) (S164 : zS2) => (z164, S164)) q164.1 q164.2) else (if how = 4 then zlet (zm_makesTangent S a b) (fun q171 => (fun (z171 : Int) (S171 : zS2) => (z171, S171)) q171.1 q171.2) else (if how = 5 then zlet (zm_makesDerivative S a b) (fun q178 => (fun (z178 : Int) (S178 : zS2) => (z178, S178)) q178.1 q178.2) else (0, S)))))))
set_option maxRecDepth 100000 in
set_option maxHeartbeats 4000000 in
theorem zk_makes (l : Launch) {D : va_G} {cI cJ cZ cP cS cM : ClassId} {L : List Nat} {sz : Nat} {f : Nat → va_E} (o : Nat) (S : zS2) (a : Int) (b : Int) (how : Int) (t : Int) (hI : mI S) (ha : -2147483648 ≤ a ∧ a ≤ 2147483647) (hb : -2147483648 ≤ b ∧ b ≤ 2147483647) (hhow : -2147483648 ≤ how ∧ how ≤ 2147483647) (ht : -2147483648 ≤ t ∧ t ≤ 2147483647) (hH : zqH S) : zMi l yX12_makes wsX12_makes 6 154 D (zT cI cJ cZ cP cS cM) L sz (zMO cI cJ o S f) [.ref o, .int (zI a), .int (zI b), .int (zI how), .int (zI t)] (fun zv gv => zv = (zm_makes S a b how t).1 ∧ gv = zMO cI cJ o (zm_makes S a b how t).2 f ∧ mI (zm_makes S a b how t).2 ∧ (∀ kk ii : Nat, ¬ kk = 13 ∧ ¬ kk = 14 ∧ ¬ kk = 15 ∧ ¬ (kk = 3 ∧ 3500 ≤ (ii : Int)) ∧ ¬ kk = 4 → (zm_makes S a b how t).2 kk ii = S kk ii) ∧ 0 ≤ zv ∧ zv ≤ 1) := by
  refine zWalk.met (nL := 5) (ret := (some .boolean)) (cc := cX12_makes) (by decide) rfl (Nat.le_of_ble_eq_true rfl) ?_
  intro pg en st mi ag bl mt cd ls CX hW hl
  have CX : zC pg st mi ag mt cd cX12_makes 5 (some .boolean) RX12 wsX12_makes := CX
  generalize hQ : MQ bl _ ag st 0 0 _ = Q
  have hX0 := CX.1
  have hB0 := CX.2.1
  have hl : lv_has ls 5 [(0, .ref o), (1, .int (zI a)), (2, .int (zI b)), (3, .int (zI how)), (4, .int (zI t))] := hl
  obtain ⟨H, eH⟩ : ∃ H, H = st.heap := ⟨_, rfl⟩
  obtain ⟨locs, eL⟩ : ∃ L : List Loc, L = [] := ⟨_, rfl⟩
  have hW : zW D (zT cI cJ cZ cP cS cM) L (zQ L sz) st (zMO cI cJ o S f) st.heap H locs := by rw [eH, eL]; exact hW
  suffices hgo : W pg l en ({ frames := 6, cells := 0, slots := 0, locals := 154 } : Room) st mi ag bl mt cd H locs 0 0 Q (F0 mi 0 ls []) by rw [eH, eL] at hgo; exact hgo
  clear eH eL
  have hpb := hI.s10
  refine lv_iload_n hX0 hB0 dX12_makes_0 rfl (lv_at hl 3 rfl) ?_
  by_cases c_1_0 : how = 0
  ·
    refine z_tin (K := 0) (off := 39) (tgt := 40) CX dX12_makes_1 (by constructor <;> omega) c_1_0 (by decide) (by decide) rfl (by decide) ?_
    refine lv_aload_n hX0 hB0 dX12_makes_40 rfl (lv_at hl 0 rfl) ?_
    refine lv_iload_n hX0 hB0 dX12_makes_41 rfl (lv_at hl 1 rfl) ?_
    refine lv_iload_n hX0 hB0 dX12_makes_42 rfl (lv_at hl 2 rfl) ?_
    refine z_calli hW (va_runV (C := RX12) (As := [.int (zI a), .int (zI b)]) (rest := []) CX.fix (zk_areCurves l o S a b hI (by constructor <;> omega) (by constructor <;> omega)) (cwV 2 CX.fix.2.2.2.2 gX12_makes_X12_areCurves rfl rfl rfl (by decide +kernel) ⟨Nat.le_of_ble_eq_true rfl, Nat.le_of_ble_eq_true rfl⟩) (z_preV CX hW (r := (RX12, TX12, 37)) zMO_0 rfl) rfl rfl hl.1 rfl (lv_room (Nat.le_of_ble_eq_true rfl)) dX12_makes_43 ⟨Nat.zero_le _, Nat.zero_le _⟩) (fun z43 gn H locs hok hW => ?_)
    obtain ⟨hz43, hg, hq43⟩ := hok
    rw [hg] at hW
    clear hg
    have e43 : zm_areCurves S a b = z43 := hz43.symm
    clear hz43
    refine z_if_eq (tgt := 65) CX dX12_makes_46 (by decide) (by constructor <;> omega) (fun c_46 => ?_) (fun c_46 => ?_)
    ·
      refine lv_iconst (v := zI 0) hX0 hB0 dX12_makes_65 rfl ?_
      have hE : zm_makes S a b how t = (0, S) := by unfold zm_makes; exact zif_t c_1_0 (zlet_e e43 (zif_t c_46 rfl))
      have hFr : ∀ kk ii : Nat, ¬ kk = 13 ∧ ¬ kk = 14 ∧ ¬ kk = 15 ∧ ¬ (kk = 3 ∧ 3500 ≤ (ii : Int)) ∧ ¬ kk = 4 → S kk ii = S kk ii := fun kk ii hk => rfl
      rw [← hQ]
      exact z_iret (z := 0) CX hW (by rw [hE]; exact ⟨rfl, rfl, hI, hFr, (show 0 ≤ (0 : Int) ∧ (0 : Int) ≤ 1 from by omega)⟩) rfl dX12_makes_66
    ·
      refine lv_aload_n hX0 hB0 dX12_makes_49 rfl (lv_at hl 0 rfl) ?_
      refine lv_sipush (v := zI 144) hX0 hB0 dX12_makes_50 (by decide) ?_
      refine lv_iload_n hX0 hB0 dX12_makes_53 rfl (lv_at hl 1 rfl) ?_
      refine lv_iload_n hX0 hB0 dX12_makes_54 rfl (lv_at hl 2 rfl) ?_
      refine z_calli hW (va_runV (C := RX12) (As := [.int (zI 144), .int (zI a), .int (zI b)]) (rest := []) CX.fix (zk_multiplies l o S 144 a b hI (by constructor <;> omega) (by constructor <;> omega) (by constructor <;> omega)) (cwV 3 CX.fix.2.2.2.2 gX12_makes_X12_multiplies rfl rfl rfl (by decide +kernel) ⟨Nat.le_of_ble_eq_true rfl, Nat.le_of_ble_eq_true rfl⟩) (z_preV CX hW (r := (RX12, TX12, 37)) zMO_0 rfl) rfl rfl hl.1 rfl (lv_room (Nat.le_of_ble_eq_true rfl)) dX12_makes_55 ⟨Nat.zero_le _, Nat.zero_le _⟩) (fun z55 gn H locs hok hW => ?_)
      obtain ⟨hz55, hg, hI55, hf55, hq55⟩ := hok
      obtain ⟨S55, hS55⟩ : ∃ q, q = (zm_multiplies S 144 a b).2 := ⟨_, rfl⟩
      rw [← hS55] at hg hI55 hf55
      have t55_10 : S55 0 10 = S 0 10 := hf55 0 10 (by omega)
      skip
      try rw [← hS55] at hq55
      rw [hg] at hW
      clear hg
      have e55 : zm_multiplies S 144 a b = (z55, S55) := Prod.ext hz55.symm hS55.symm
      clear hz55 hS55
      refine z_if_eq (tgt := 65) CX dX12_makes_58 (by decide) (by constructor <;> omega) (fun c_58 => ?_) (fun c_58 => ?_)
      ·
        refine lv_iconst (v := zI 0) hX0 hB0 dX12_makes_65 rfl ?_
        have hE : zm_makes S a b how t = (0, S55) := by unfold zm_makes; exact zif_t c_1_0 (zlet_e e43 (zif_f c_46 (zlet_e e55 (zif_t c_58 rfl))))
        have hFr : ∀ kk ii : Nat, ¬ kk = 13 ∧ ¬ kk = 14 ∧ ¬ kk = 15 ∧ ¬ (kk = 3 ∧ 3500 ≤ (ii : Int)) ∧ ¬ kk = 4 → S55 kk ii = S kk ii := fun kk ii hk => (hf55 kk ii (by omega))
        rw [← hQ]
        exact z_iret (z := 0) CX hW (by rw [hE]; exact ⟨rfl, rfl, hI55, hFr, (show 0 ≤ (0 : Int) ∧ (0 : Int) ≤ 1 from by omega)⟩) rfl dX12_makes_66
      ·
        refine lv_iconst (v := zI 1) hX0 hB0 dX12_makes_61 rfl ?_
        refine lv_goto (tgt := 66) hX0 hB0 dX12_makes_62 (by decide) ?_
        have hE : zm_makes S a b how t = (1, S55) := by unfold zm_makes; exact zif_t c_1_0 (zlet_e e43 (zif_f c_46 (zlet_e e55 (zif_f c_58 rfl))))
        have hFr : ∀ kk ii : Nat, ¬ kk = 13 ∧ ¬ kk = 14 ∧ ¬ kk = 15 ∧ ¬ (kk = 3 ∧ 3500 ≤ (ii : Int)) ∧ ¬ kk = 4 → S55 kk ii = S kk ii := fun kk ii hk => (hf55 kk ii (by omega))
        rw [← hQ]
        exact z_iret (z := 1) CX hW (by rw [hE]; exact ⟨rfl, rfl, hI55, hFr, (show 0 ≤ (1 : Int) ∧ (1 : Int) ≤ 1 from by omega)⟩) rfl dX12_makes_66
  by_cases c_1_1 : how = 1
  ·
    refine z_tin (K := 1) (off := 66) (tgt := 67) CX dX12_makes_1 (by constructor <;> omega) c_1_1 (by decide) (by decide) rfl (by decide) ?_
    refine lv_aload_n hX0 hB0 dX12_makes_67 rfl (lv_at hl 0 rfl) ?_
    refine lv_iload_n hX0 hB0 dX12_makes_68 rfl (lv_at hl 1 rfl) ?_
    refine lv_iload_n hX0 hB0 dX12_makes_69 rfl (lv_at hl 2 rfl) ?_
    refine z_calli hW (va_runV (C := RX12) (As := [.int (zI a), .int (zI b)]) (rest := []) CX.fix (zk_areCurves l o S a b hI (by constructor <;> omega) (by constructor <;> omega)) (cwV 2 CX.fix.2.2.2.2 gX12_makes_X12_areCurves rfl rfl rfl (by decide +kernel) ⟨Nat.le_of_ble_eq_true rfl, Nat.le_of_ble_eq_true rfl⟩) (z_preV CX hW (r := (RX12, TX12, 37)) zMO_0 rfl) rfl rfl hl.1 rfl (lv_room (Nat.le_of_ble_eq_true rfl)) dX12_makes_70 ⟨Nat.zero_le _, Nat.zero_le _⟩) (fun z70 gn H locs hok hW => ?_)
    obtain ⟨hz70, hg, hq70⟩ := hok
    rw [hg] at hW
    clear hg
    have e70 : zm_areCurves S a b = z70 := hz70.symm
    clear hz70
    refine z_if_ne (tgt := 78) CX dX12_makes_73 (by decide) (by constructor <;> omega) (fun c_73 => ?_) (fun c_73 => ?_)
    ·
      refine lv_aload_n hX0 hB0 dX12_makes_78 rfl (lv_at hl 0 rfl) ?_
      refine lv_sipush (v := zI 144) hX0 hB0 dX12_makes_79 (by decide) ?_
      refine lv_iload_n hX0 hB0 dX12_makes_82 rfl (lv_at hl 1 rfl) ?_
      refine z_callv hW (va_runV (C := RX12) (As := [.int (zI 144), .int (zI a)]) (rest := []) CX.fix (zk_copies l o S 144 a hI (by constructor <;> omega) (by constructor <;> omega)) (cwV 2 CX.fix.2.2.2.2 gX12_makes_X12_copies rfl rfl rfl (by decide +kernel) ⟨Nat.le_of_ble_eq_true rfl, Nat.le_of_ble_eq_true rfl⟩) (z_preV CX hW (r := (RX12, TX12, 37)) zMO_0 rfl) rfl rfl hl.1 rfl (lv_room (Nat.le_of_ble_eq_true rfl)) dX12_makes_83 ⟨Nat.zero_le _, Nat.zero_le _⟩) (fun gn H locs hok hW => ?_)
      obtain ⟨hg, hI83, hf83, hq83⟩ := hok
      obtain ⟨S83, e83⟩ : ∃ q, zm_copies S 144 a = q := ⟨_, rfl⟩
      rw [e83] at hg hI83 hf83
      have t83_10 : S83 0 10 = S 0 10 := hf83 0 10 (by omega)
      skip
      try rw [e83] at hq83
      rw [hg] at hW
      clear hg
      refine lv_aload_n hX0 hB0 dX12_makes_86 rfl (lv_at hl 0 rfl) ?_
      refine lv_sipush (v := zI 144) hX0 hB0 dX12_makes_87 (by decide) ?_
      refine lv_iload_n hX0 hB0 dX12_makes_90 rfl (lv_at hl 2 rfl) ?_
      refine lv_aload_n hX0 hB0 dX12_makes_91 rfl (lv_at hl 0 rfl) ?_
      refine lv_iload hX0 hB0 dX12_makes_92 (lv_at hl 4 rfl) ?_
      refine z_i2l CX dX12_makes_94 (by constructor <;> omega) ?_
      refine z_calli hW (va_runV (C := RX12) (As := [.long (zL t)]) (rest := [.int (zI b), .int (zI 144), .ref o]) CX.fix (zk_modulo l o S83 t hI83 (by constructor <;> omega)) (cwV 1 CX.fix.2.2.2.2 gX12_makes_X12_modulo rfl rfl rfl (by decide +kernel) ⟨Nat.le_of_ble_eq_true rfl, Nat.le_of_ble_eq_true rfl⟩) (z_preV CX hW (r := (RX12, TX12, 37)) zMO_0 rfl) rfl rfl hl.1 rfl (lv_room (Nat.le_of_ble_eq_true rfl)) dX12_makes_95 ⟨Nat.zero_le _, Nat.zero_le _⟩) (fun z95 gn H locs hok hW => ?_)
      obtain ⟨hz95, hg, hq95⟩ := hok
      rw [hg] at hW
      clear hg
      have e95 : zm_modulo S83 t = z95 := hz95.symm
      clear hz95
      refine z_i2l CX dX12_makes_98 (by constructor <;> omega) ?_
      refine z_callv hW (va_runV (C := RX12) (As := [.int (zI 144), .int (zI b), .long (zL z95)]) (rest := []) CX.fix (zk_adds l o S83 144 b z95 hI83 (by constructor <;> omega) (by constructor <;> omega) (by constructor <;> omega)) (cwV 3 CX.fix.2.2.2.2 gX12_makes_X12_adds rfl rfl rfl (by decide +kernel) ⟨Nat.le_of_ble_eq_true rfl, Nat.le_of_ble_eq_true rfl⟩) (z_preV CX hW (r := (RX12, TX12, 37)) zMO_0 rfl) rfl rfl hl.1 rfl (lv_room (Nat.le_of_ble_eq_true rfl)) dX12_makes_99 ⟨Nat.zero_le _, Nat.zero_le _⟩) (fun gn H locs hok hW => ?_)
      obtain ⟨hg, hI99, hf99, hq99⟩ := hok
      obtain ⟨S99, e99⟩ : ∃ q, zm_adds S83 144 b z95 = q := ⟨_, rfl⟩
      rw [e99] at hg hI99 hf99
      have t99_10 : S99 0 10 = S83 0 10 := hf99 0 10 (by omega)
      skip
      try rw [e99] at hq99
      rw [hg] at hW
      clear hg
      refine lv_aload_n hX0 hB0 dX12_makes_102 rfl (lv_at hl 0 rfl) ?_
      refine lv_sipush (v := zI 144) hX0 hB0 dX12_makes_103 (by decide) ?_
      refine z_calli hW (va_runV (C := RX12) (As := [.int (zI 144)]) (rest := []) CX.fix (zk_degreeOf l o S99 144 hI99 (by constructor <;> omega)) (cwV 1 CX.fix.2.2.2.2 gX12_makes_X12_degreeOf rfl rfl rfl (by decide +kernel) ⟨Nat.le_of_ble_eq_true rfl, Nat.le_of_ble_eq_true rfl⟩) (z_preV CX hW (r := (RX12, TX12, 37)) zMO_0 rfl) rfl rfl hl.1 rfl (lv_room (Nat.le_of_ble_eq_true rfl)) dX12_makes_106 ⟨Nat.zero_le _, Nat.zero_le _⟩) (fun z106 gn H locs hok hW => ?_)
      obtain ⟨hz106, hg, hq106⟩ := hok
      rw [hg] at hW
      clear hg
      have e106 : zm_degreeOf S99 144 = z106 := hz106.symm
      clear hz106
      refine z_if_le (tgt := 116) CX dX12_makes_109 (by decide) (by constructor <;> omega) (fun c_109 => ?_) (fun c_109 => ?_)
      ·
        refine lv_iconst (v := zI 0) hX0 hB0 dX12_makes_116 rfl ?_
        have hE : zm_makes S a b how t = (0, S99) := by unfold zm_makes; exact zif_f c_1_0 (zif_t c_1_1 (zlet_e e70 (zif_f c_73 (zlet_e e83 (zlet_e e95 (zlet_e e99 (zlet_e e106 (zif_t c_109 rfl))))))))
        have hFr : ∀ kk ii : Nat, ¬ kk = 13 ∧ ¬ kk = 14 ∧ ¬ kk = 15 ∧ ¬ (kk = 3 ∧ 3500 ≤ (ii : Int)) ∧ ¬ kk = 4 → S99 kk ii = S kk ii := fun kk ii hk => ((hf99 kk ii (by omega))).trans (hf83 kk ii (by omega))
        rw [← hQ]
        exact z_iret (z := 0) CX hW (by rw [hE]; exact ⟨rfl, rfl, hI99, hFr, (show 0 ≤ (0 : Int) ∧ (0 : Int) ≤ 1 from by omega)⟩) rfl dX12_makes_117
      ·
        have d_109 : ¬ z106 ≤ 0 := by omega
        refine lv_iconst (v := zI 1) hX0 hB0 dX12_makes_112 rfl ?_
        refine lv_goto (tgt := 117) hX0 hB0 dX12_makes_113 (by decide) ?_
        have hE : zm_makes S a b how t = (1, S99) := by unfold zm_makes; exact zif_f c_1_0 (zif_t c_1_1 (zlet_e e70 (zif_f c_73 (zlet_e e83 (zlet_e e95 (zlet_e e99 (zlet_e e106 (zif_f d_109 rfl))))))))
        have hFr : ∀ kk ii : Nat, ¬ kk = 13 ∧ ¬ kk = 14 ∧ ¬ kk = 15 ∧ ¬ (kk = 3 ∧ 3500 ≤ (ii : Int)) ∧ ¬ kk = 4 → S99 kk ii = S kk ii := fun kk ii hk => ((hf99 kk ii (by omega))).trans (hf83 kk ii (by omega))
        rw [← hQ]
        exact z_iret (z := 1) CX hW (by rw [hE]; exact ⟨rfl, rfl, hI99, hFr, (show 0 ≤ (1 : Int) ∧ (1 : Int) ≤ 1 from by omega)⟩) rfl dX12_makes_117
    ·
      refine lv_iconst (v := zI 0) hX0 hB0 dX12_makes_76 rfl ?_
      have hE : zm_makes S a b how t = (0, S) := by unfold zm_makes; exact zif_f c_1_0 (zif_t c_1_1 (zlet_e e70 (zif_t c_73 rfl)))
      have hFr : ∀ kk ii : Nat, ¬ kk = 13 ∧ ¬ kk = 14 ∧ ¬ kk = 15 ∧ ¬ (kk = 3 ∧ 3500 ≤ (ii : Int)) ∧ ¬ kk = 4 → S kk ii = S kk ii := fun kk ii hk => rfl
      rw [← hQ]
      exact z_iret (z := 0) CX hW (by rw [hE]; exact ⟨rfl, rfl, hI, hFr, (show 0 ≤ (0 : Int) ∧ (0 : Int) ≤ 1 from by omega)⟩) rfl dX12_makes_77
  by_cases c_1_2 : how = 2
  ·
    refine z_tin (K := 2) (off := 117) (tgt := 118) CX dX12_makes_1 (by constructor <;> omega) c_1_2 (by decide) (by decide) rfl (by decide) ?_
    refine lv_aload_n hX0 hB0 dX12_makes_118 rfl (lv_at hl 0 rfl) ?_
    refine lv_iload_n hX0 hB0 dX12_makes_119 rfl (lv_at hl 1 rfl) ?_
    refine lv_iload_n hX0 hB0 dX12_makes_120 rfl (lv_at hl 2 rfl) ?_
    refine z_calli hW (va_runV (C := RX12) (As := [.int (zI a), .int (zI b)]) (rest := []) CX.fix (zk_areCurves l o S a b hI (by constructor <;> omega) (by constructor <;> omega)) (cwV 2 CX.fix.2.2.2.2 gX12_makes_X12_areCurves rfl rfl rfl (by decide +kernel) ⟨Nat.le_of_ble_eq_true rfl, Nat.le_of_ble_eq_true rfl⟩) (z_preV CX hW (r := (RX12, TX12, 37)) zMO_0 rfl) rfl rfl hl.1 rfl (lv_room (Nat.le_of_ble_eq_true rfl)) dX12_makes_121 ⟨Nat.zero_le _, Nat.zero_le _⟩) (fun z121 gn H locs hok hW => ?_)
    obtain ⟨hz121, hg, hq121⟩ := hok
    rw [hg] at hW
    clear hg
    have e121 : zm_areCurves S a b = z121 := hz121.symm
    clear hz121
    refine z_if_ne (tgt := 129) CX dX12_makes_124 (by decide) (by constructor <;> omega) (fun c_124 => ?_) (fun c_124 => ?_)
    ·
      refine lv_aload_n hX0 hB0 dX12_makes_129 rfl (lv_at hl 0 rfl) ?_
      refine lv_iload_n hX0 hB0 dX12_makes_130 rfl (lv_at hl 1 rfl) ?_
      refine lv_iload_n hX0 hB0 dX12_makes_131 rfl (lv_at hl 2 rfl) ?_
      refine z_callv hW (va_runV (C := RX12) (As := [.int (zI a), .int (zI b)]) (rest := []) CX.fix (zk_laysCommon l o S a b hI (by constructor <;> omega) (by constructor <;> omega) ⟨zqH.deg hH hI (by omega) (by omega), zqH.deg hH hI (by omega) (by omega)⟩) (cwV 2 CX.fix.2.2.2.2 gX12_makes_X12_laysCommon rfl rfl rfl (by decide +kernel) ⟨Nat.le_of_ble_eq_true rfl, Nat.le_of_ble_eq_true rfl⟩) (z_preV CX hW (r := (RX12, TX12, 37)) zMO_0 rfl) rfl rfl hl.1 rfl (lv_room (Nat.le_of_ble_eq_true rfl)) dX12_makes_132 ⟨Nat.zero_le _, Nat.zero_le _⟩) (fun gn H locs hok hW => ?_)
      obtain ⟨hg, hI132, hf132, hq132⟩ := hok
      obtain ⟨S132, e132⟩ : ∃ q, zm_laysCommon S a b = q := ⟨_, rfl⟩
      rw [e132] at hg hI132 hf132
      have t132_10 : S132 0 10 = S 0 10 := hf132 0 10 (by omega)
      skip
      try rw [e132] at hq132
      rw [hg] at hW
      clear hg
      refine lv_aload_n hX0 hB0 dX12_makes_135 rfl (lv_at hl 0 rfl) ?_
      refine lv_sipush (v := zI 144) hX0 hB0 dX12_makes_136 (by decide) ?_
      refine lv_sipush (v := zI 143) hX0 hB0 dX12_makes_139 (by decide) ?_
      refine z_callv hW (va_runV (C := RX12) (As := [.int (zI 144), .int (zI 143)]) (rest := []) CX.fix (zk_copies l o S132 144 143 hI132 (by constructor <;> omega) (by constructor <;> omega)) (cwV 2 CX.fix.2.2.2.2 gX12_makes_X12_copies rfl rfl rfl (by decide +kernel) ⟨Nat.le_of_ble_eq_true rfl, Nat.le_of_ble_eq_true rfl⟩) (z_preV CX hW (r := (RX12, TX12, 37)) zMO_0 rfl) rfl rfl hl.1 rfl (lv_room (Nat.le_of_ble_eq_true rfl)) dX12_makes_142 ⟨Nat.zero_le _, Nat.zero_le _⟩) (fun gn H locs hok hW => ?_)
      obtain ⟨hg, hI142, hf142, hq142⟩ := hok
      obtain ⟨S142, e142⟩ : ∃ q, zm_copies S132 144 143 = q := ⟨_, rfl⟩
      rw [e142] at hg hI142 hf142
      have t142_10 : S142 0 10 = S132 0 10 := hf142 0 10 (by omega)
      skip
      try rw [e142] at hq142
      rw [hg] at hW
      clear hg
      refine lv_aload_n hX0 hB0 dX12_makes_145 rfl (lv_at hl 0 rfl) ?_
      refine lv_sipush (v := zI 144) hX0 hB0 dX12_makes_146 (by decide) ?_
      refine z_calli hW (va_runV (C := RX12) (As := [.int (zI 144)]) (rest := []) CX.fix (zk_degreeOf l o S142 144 hI142 (by constructor <;> omega)) (cwV 1 CX.fix.2.2.2.2 gX12_makes_X12_degreeOf rfl rfl rfl (by decide +kernel) ⟨Nat.le_of_ble_eq_true rfl, Nat.le_of_ble_eq_true rfl⟩) (z_preV CX hW (r := (RX12, TX12, 37)) zMO_0 rfl) rfl rfl hl.1 rfl (lv_room (Nat.le_of_ble_eq_true rfl)) dX12_makes_149 ⟨Nat.zero_le _, Nat.zero_le _⟩) (fun z149 gn H locs hok hW => ?_)
      obtain ⟨hz149, hg, hq149⟩ := hok
      rw [hg] at hW
      clear hg
      have e149 : zm_degreeOf S142 144 = z149 := hz149.symm
      clear hz149
      refine z_if_le (tgt := 159) CX dX12_makes_152 (by decide) (by constructor <;> omega) (fun c_152 => ?_) (fun c_152 => ?_)
      ·
        refine lv_iconst (v := zI 0) hX0 hB0 dX12_makes_159 rfl ?_
        have hE : zm_makes S a b how t = (0, S142) := by unfold zm_makes; exact zif_f c_1_0 (zif_f c_1_1 (zif_t c_1_2 (zlet_e e121 (zif_f c_124 (zlet_e e132 (zlet_e e142 (zlet_e e149 (zif_t c_152 rfl))))))))
        have hFr : ∀ kk ii : Nat, ¬ kk = 13 ∧ ¬ kk = 14 ∧ ¬ kk = 15 ∧ ¬ (kk = 3 ∧ 3500 ≤ (ii : Int)) ∧ ¬ kk = 4 → S142 kk ii = S kk ii := fun kk ii hk => ((hf142 kk ii (by omega))).trans (hf132 kk ii (by omega))
        rw [← hQ]
        exact z_iret (z := 0) CX hW (by rw [hE]; exact ⟨rfl, rfl, hI142, hFr, (show 0 ≤ (0 : Int) ∧ (0 : Int) ≤ 1 from by omega)⟩) rfl dX12_makes_160
      ·
        have d_152 : ¬ z149 ≤ 0 := by omega
        refine lv_iconst (v := zI 1) hX0 hB0 dX12_makes_155 rfl ?_
        refine lv_goto (tgt := 160) hX0 hB0 dX12_makes_156 (by decide) ?_
        have hE : zm_makes S a b how t = (1, S142) := by unfold zm_makes; exact zif_f c_1_0 (zif_f c_1_1 (zif_t c_1_2 (zlet_e e121 (zif_f c_124 (zlet_e e132 (zlet_e e142 (zlet_e e149 (zif_f d_152 rfl))))))))
        have hFr : ∀ kk ii : Nat, ¬ kk = 13 ∧ ¬ kk = 14 ∧ ¬ kk = 15 ∧ ¬ (kk = 3 ∧ 3500 ≤ (ii : Int)) ∧ ¬ kk = 4 → S142 kk ii = S kk ii := fun kk ii hk => ((hf142 kk ii (by omega))).trans (hf132 kk ii (by omega))
        rw [← hQ]
        exact z_iret (z := 1) CX hW (by rw [hE]; exact ⟨rfl, rfl, hI142, hFr, (show 0 ≤ (1 : Int) ∧ (1 : Int) ≤ 1 from by omega)⟩) rfl dX12_makes_160
    ·
      refine lv_iconst (v := zI 0) hX0 hB0 dX12_makes_127 rfl ?_
      have hE : zm_makes S a b how t = (0, S) := by unfold zm_makes; exact zif_f c_1_0 (zif_f c_1_1 (zif_t c_1_2 (zlet_e e121 (zif_t c_124 rfl))))
      have hFr : ∀ kk ii : Nat, ¬ kk = 13 ∧ ¬ kk = 14 ∧ ¬ kk = 15 ∧ ¬ (kk = 3 ∧ 3500 ≤ (ii : Int)) ∧ ¬ kk = 4 → S kk ii = S kk ii := fun kk ii hk => rfl
      rw [← hQ]
      exact z_iret (z := 0) CX hW (by rw [hE]; exact ⟨rfl, rfl, hI, hFr, (show 0 ≤ (0 : Int) ∧ (0 : Int) ≤ 1 from by omega)⟩) rfl dX12_makes_128
  by_cases c_1_3 : how = 3
  ·
    refine z_tin (K := 3) (off := 160) (tgt := 161) CX dX12_makes_1 (by constructor <;> omega) c_1_3 (by decide) (by decide) rfl (by decide) ?_
    refine lv_aload_n hX0 hB0 dX12_makes_161 rfl (lv_at hl 0 rfl) ?_
    refine lv_iload_n hX0 hB0 dX12_makes_162 rfl (lv_at hl 1 rfl) ?_
    refine lv_iload_n hX0 hB0 dX12_makes_163 rfl (lv_at hl 2 rfl) ?_
    refine z_calli hW (va_runV (C := RX12) (As := [.int (zI a), .int (zI b)]) (rest := []) CX.fix (zk_makesLine l o S a b hI (by constructor <;> omega) (by constructor <;> omega)) (cwV 2 CX.fix.2.2.2.2 gX12_makes_X12_makesLine rfl rfl rfl (by decide +kernel) ⟨Nat.le_of_ble_eq_true rfl, Nat.le_of_ble_eq_true rfl⟩) (z_preV CX hW (r := (RX12, TX12, 37)) zMO_0 rfl) rfl rfl hl.1 rfl (lv_room (Nat.le_of_ble_eq_true rfl)) dX12_makes_164 ⟨Nat.zero_le _, Nat.zero_le _⟩) (fun z164 gn H locs hok hW => ?_)
    obtain ⟨hz164, hg, hI164, hf164, hq164⟩ := hok
    obtain ⟨S164, hS164⟩ : ∃ q, q = (zm_makesLine S a b).2 := ⟨_, rfl⟩
    rw [← hS164] at hg hI164 hf164
    have t164_10 : S164 0 10 = S 0 10 := hf164 0 10 (by omega)
    skip
    try rw [← hS164] at hq164
    rw [hg] at hW
    clear hg
    have e164 : zm_makesLine S a b = (z164, S164) := Prod.ext hz164.symm hS164.symm
    clear hz164 hS164
    have hE : zm_makes S a b how t = (z164, S164) := by unfold zm_makes; exact zif_f c_1_0 (zif_f c_1_1 (zif_f c_1_2 (zif_t c_1_3 (zlet_e e164 rfl))))
    have hFr : ∀ kk ii : Nat, ¬ kk = 13 ∧ ¬ kk = 14 ∧ ¬ kk = 15 ∧ ¬ (kk = 3 ∧ 3500 ≤ (ii : Int)) ∧ ¬ kk = 4 → S164 kk ii = S kk ii := fun kk ii hk => (hf164 kk ii (by omega))
    rw [← hQ]
    exact z_iret (z := z164) CX hW (by rw [hE]; exact ⟨rfl, rfl, hI164, hFr, (show 0 ≤ z164 ∧ z164 ≤ 1 from by omega)⟩) (zI_bool (by omega)) dX12_makes_167
  by_cases c_1_4 : how = 4
  ·
    refine z_tin (K := 4) (off := 167) (tgt := 168) CX dX12_makes_1 (by constructor <;> omega) c_1_4 (by decide) (by decide) rfl (by decide) ?_
    refine lv_aload_n hX0 hB0 dX12_makes_168 rfl (lv_at hl 0 rfl) ?_
    refine lv_iload_n hX0 hB0 dX12_makes_169 rfl (lv_at hl 1 rfl) ?_
    refine lv_iload_n hX0 hB0 dX12_makes_170 rfl (lv_at hl 2 rfl) ?_
    refine z_calli hW (va_runV (C := RX12) (As := [.int (zI a), .int (zI b)]) (rest := []) CX.fix (zk_makesTangent l o S a b hI (by constructor <;> omega) (by constructor <;> omega)) (cwV 2 CX.fix.2.2.2.2 gX12_makes_X12_makesTangent rfl rfl rfl (by decide +kernel) ⟨Nat.le_of_ble_eq_true rfl, Nat.le_of_ble_eq_true rfl⟩) (z_preV CX hW (r := (RX12, TX12, 37)) zMO_0 rfl) rfl rfl hl.1 rfl (lv_room (Nat.le_of_ble_eq_true rfl)) dX12_makes_171 ⟨Nat.zero_le _, Nat.zero_le _⟩) (fun z171 gn H locs hok hW => ?_)
    obtain ⟨hz171, hg, hI171, hf171, hq171⟩ := hok
    obtain ⟨S171, hS171⟩ : ∃ q, q = (zm_makesTangent S a b).2 := ⟨_, rfl⟩
    rw [← hS171] at hg hI171 hf171
    have t171_10 : S171 0 10 = S 0 10 := hf171 0 10 (by omega)
    skip
    try rw [← hS171] at hq171
    rw [hg] at hW
    clear hg
    have e171 : zm_makesTangent S a b = (z171, S171) := Prod.ext hz171.symm hS171.symm
    clear hz171 hS171
    have hE : zm_makes S a b how t = (z171, S171) := by unfold zm_makes; exact zif_f c_1_0 (zif_f c_1_1 (zif_f c_1_2 (zif_f c_1_3 (zif_t c_1_4 (zlet_e e171 rfl)))))
    have hFr : ∀ kk ii : Nat, ¬ kk = 13 ∧ ¬ kk = 14 ∧ ¬ kk = 15 ∧ ¬ (kk = 3 ∧ 3500 ≤ (ii : Int)) ∧ ¬ kk = 4 → S171 kk ii = S kk ii := fun kk ii hk => (hf171 kk ii (by omega))
    rw [← hQ]
    exact z_iret (z := z171) CX hW (by rw [hE]; exact ⟨rfl, rfl, hI171, hFr, (show 0 ≤ z171 ∧ z171 ≤ 1 from by omega)⟩) (zI_bool (by omega)) dX12_makes_174
  by_cases c_1_5 : how = 5
  ·
    refine z_tin (K := 5) (off := 174) (tgt := 175) CX dX12_makes_1 (by constructor <;> omega) c_1_5 (by decide) (by decide) rfl (by decide) ?_
    refine lv_aload_n hX0 hB0 dX12_makes_175 rfl (lv_at hl 0 rfl) ?_
    refine lv_iload_n hX0 hB0 dX12_makes_176 rfl (lv_at hl 1 rfl) ?_
    refine lv_iload_n hX0 hB0 dX12_makes_177 rfl (lv_at hl 2 rfl) ?_
    refine z_calli hW (va_runV (C := RX12) (As := [.int (zI a), .int (zI b)]) (rest := []) CX.fix (zk_makesDerivative l o S a b hI (by constructor <;> omega) (by constructor <;> omega)) (cwV 2 CX.fix.2.2.2.2 gX12_makes_X12_makesDerivative rfl rfl rfl (by decide +kernel) ⟨Nat.le_of_ble_eq_true rfl, Nat.le_of_ble_eq_true rfl⟩) (z_preV CX hW (r := (RX12, TX12, 37)) zMO_0 rfl) rfl rfl hl.1 rfl (lv_room (Nat.le_of_ble_eq_true rfl)) dX12_makes_178 ⟨Nat.zero_le _, Nat.zero_le _⟩) (fun z178 gn H locs hok hW => ?_)
    obtain ⟨hz178, hg, hI178, hf178, hq178⟩ := hok
    obtain ⟨S178, hS178⟩ : ∃ q, q = (zm_makesDerivative S a b).2 := ⟨_, rfl⟩
    rw [← hS178] at hg hI178 hf178
    have t178_10 : S178 0 10 = S 0 10 := hf178 0 10 (by omega)
    skip
    try rw [← hS178] at hq178
    rw [hg] at hW
    clear hg
    have e178 : zm_makesDerivative S a b = (z178, S178) := Prod.ext hz178.symm hS178.symm
    clear hz178 hS178
    have hE : zm_makes S a b how t = (z178, S178) := by unfold zm_makes; exact zif_f c_1_0 (zif_f c_1_1 (zif_f c_1_2 (zif_f c_1_3 (zif_f c_1_4 (zif_t c_1_5 (zlet_e e178 rfl))))))
    have hFr : ∀ kk ii : Nat, ¬ kk = 13 ∧ ¬ kk = 14 ∧ ¬ kk = 15 ∧ ¬ (kk = 3 ∧ 3500 ≤ (ii : Int)) ∧ ¬ kk = 4 → S178 kk ii = S kk ii := fun kk ii hk => (hf178 kk ii (by omega))
    rw [← hQ]
    exact z_iret (z := z178) CX hW (by rw [hE]; exact ⟨rfl, rfl, hI178, hFr, (show 0 ≤ z178 ∧ z178 ≤ 1 from by omega)⟩) (zI_bool (by omega)) dX12_makes_181
  refine z_tout (tgt := 182) CX dX12_makes_1 (by constructor <;> omega) (by omega) (by decide) ?_
  refine lv_iconst (v := zI 0) hX0 hB0 dX12_makes_182 rfl ?_
  have hE : zm_makes S a b how t = (0, S) := by unfold zm_makes; exact zif_f c_1_0 (zif_f c_1_1 (zif_f c_1_2 (zif_f c_1_3 (zif_f c_1_4 (zif_f c_1_5 rfl)))))
  have hFr : ∀ kk ii : Nat, ¬ kk = 13 ∧ ¬ kk = 14 ∧ ¬ kk = 15 ∧ ¬ (kk = 3 ∧ 3500 ≤ (ii : Int)) ∧ ¬ kk = 4 → S kk ii = S kk ii := fun kk ii hk => rfl
  rw [← hQ]
  exact z_iret (z := 0) CX hW (by rw [hE]; exact ⟨rfl, rfl, hI, hFr, (show 0 ≤ (0 : Int) ∧ (0 : Int) ≤ 1 from by omega)⟩) rfl dX12_makes_183
def zm_make (S : zS2) (a : Int) (b : Int) (how : Int) (t : Int) : Int × zS2 := (if S 0 13 = 6 then zlet (zm_refuses S 3) (fun q23 => (fun (z23 : Int) (S23 : zS2) => (z23, S23)) q23.1 q23.2) else zlet (zm_makes S a b how t) (fun q15 => (fun (z15 : Int) (S15 : zS2) => (if z15 = 0 then zlet (zm_refuses S15 3) (fun q23 => (fun (z23 : Int) (S23 : zS2) => (z23, S23)) q23.1 q23.2) else zlet (zm_keeps S15) (fun S28 => zlet (zm_copies S28 (S28 0 13) 144) (fun S39 => zlet (za S39 5 ((S39 0 13).toNat) 0) (fun S51 => zlet (za S51 0 13 ((S51 0 13) + 1)) (fun S59 => ((S59 0 13) - 1, S59))))))) q15.1 q15.2))
set_option maxRecDepth 100000 in
set_option maxHeartbeats 4000000 in
theorem zk_make (l : Launch) {D : va_G} {cI cJ cZ cP cS cM : ClassId} {L : List Nat} {sz : Nat} {f : Nat → va_E} (o : Nat) (S : zS2) (a : Int) (b : Int) (how : Int) (t : Int) (hI : mI S) (ha : -2147483648 ≤ a ∧ a ≤ 2147483647) (hb : -2147483648 ≤ b ∧ b ≤ 2147483647) (hhow : -2147483648 ≤ how ∧ how ≤ 2147483647) (ht : -2147483648 ≤ t ∧ t ≤ 2147483647) (hH : zqH S) : zMi l yX12_make wsX12_make 7 178 D (zT cI cJ cZ cP cS cM) L sz (zMO cI cJ o S f) [.ref o, .int (zI a), .int (zI b), .int (zI how), .int (zI t)] (fun zv gv => zv = (zm_make S a b how t).1 ∧ gv = zMO cI cJ o (zm_make S a b how t).2 f ∧ mI (zm_make S a b how t).2 ∧ (∀ kk ii : Nat, ¬ (kk = 0 ∧ ii = 13) ∧ ¬ (kk = 0 ∧ ii = 35) ∧ ¬ kk = 13 ∧ ¬ kk = 14 ∧ ¬ kk = 15 ∧ ¬ kk = 2 ∧ ¬ kk = 20 ∧ ¬ kk = 3 ∧ ¬ kk = 4 ∧ ¬ kk = 5 → (zm_make S a b how t).2 kk ii = S kk ii) ∧ -1 ≤ zv ∧ zv ≤ 5) := by
  refine zWalk.met (nL := 5) (ret := (some .int)) (cc := cX12_make) (by decide) rfl (Nat.le_of_ble_eq_true rfl) ?_
  intro pg en st mi ag bl mt cd ls CX hW hl
  have CX : zC pg st mi ag mt cd cX12_make 5 (some .int) RX12 wsX12_make := CX
  generalize hQ : MQ bl _ ag st 0 0 _ = Q
  have hX0 := CX.1
  have hB0 := CX.2.1
  have hl : lv_has ls 5 [(0, .ref o), (1, .int (zI a)), (2, .int (zI b)), (3, .int (zI how)), (4, .int (zI t))] := hl
  obtain ⟨H, eH⟩ : ∃ H, H = st.heap := ⟨_, rfl⟩
  obtain ⟨locs, eL⟩ : ∃ L : List Loc, L = [] := ⟨_, rfl⟩
  have hW : zW D (zT cI cJ cZ cP cS cM) L (zQ L sz) st (zMO cI cJ o S f) st.heap H locs := by rw [eH, eL]; exact hW
  suffices hgo : W pg l en ({ frames := 7, cells := 0, slots := 0, locals := 178 } : Room) st mi ag bl mt cd H locs 0 0 Q (F0 mi 0 ls []) by rw [eH, eL] at hgo; exact hgo
  clear eH eL
  have hpb := hI.s10
  have hbc := hI.s13
  refine lv_aload_n hX0 hB0 dX12_make_0 rfl (lv_at hl 0 rfl) ?_
  refine z_get (Cn := RX12) (T := TX12) (N := 37) CX hW (v := .int (zI (S 0 13))) zMO_0 rfl (fun w h => List.mem_cons_of_mem _ (List.mem_append_right _ h)) 13 (by decide) (List.mem_of_getElem? (i := 1) rfl) rfl rfl dX12_make_1 ?_
  have hr1 := hI.s13
  refine lv_bipush (v := zI 6) hX0 hB0 dX12_make_4 (by decide) ?_
  refine z_icmp_eq (tgt := 21) CX dX12_make_6 (by decide) (by constructor <;> omega) (by constructor <;> omega) (fun c_6 => ?_) (fun c_6 => ?_)
  ·
    refine lv_aload_n hX0 hB0 dX12_make_21 rfl (lv_at hl 0 rfl) ?_
    refine lv_iconst (v := zI 3) hX0 hB0 dX12_make_22 rfl ?_
    refine z_calli hW (va_runV (C := RX12) (As := [.int (zI 3)]) (rest := []) CX.fix (zk_refuses l o S 3 hI (by constructor <;> omega)) (cwV 1 CX.fix.2.2.2.2 gX12_make_X12_refuses rfl rfl rfl (by decide +kernel) ⟨Nat.le_of_ble_eq_true rfl, Nat.le_of_ble_eq_true rfl⟩) (z_preV CX hW (r := (RX12, TX12, 37)) zMO_0 rfl) rfl rfl hl.1 rfl (lv_room (Nat.le_of_ble_eq_true rfl)) dX12_make_23 ⟨Nat.zero_le _, Nat.zero_le _⟩) (fun z23 gn H locs hok hW => ?_)
    obtain ⟨hz23, hg, hI23, hf23, hq23⟩ := hok
    obtain ⟨S23, hS23⟩ : ∃ q, q = (zm_refuses S 3).2 := ⟨_, rfl⟩
    rw [← hS23] at hg hI23 hf23
    have t23_13 : S23 0 13 = S 0 13 := hf23 0 13 (by omega)
    skip
    try rw [← hS23] at hq23
    rw [hg] at hW
    clear hg
    have e23 : zm_refuses S 3 = (z23, S23) := Prod.ext hz23.symm hS23.symm
    clear hz23 hS23
    have hE : zm_make S a b how t = (z23, S23) := by unfold zm_make; exact zif_t c_6 (zlet_e e23 rfl)
    have hFr : ∀ kk ii : Nat, ¬ (kk = 0 ∧ ii = 13) ∧ ¬ (kk = 0 ∧ ii = 35) ∧ ¬ kk = 13 ∧ ¬ kk = 14 ∧ ¬ kk = 15 ∧ ¬ kk = 2 ∧ ¬ kk = 20 ∧ ¬ kk = 3 ∧ ¬ kk = 4 ∧ ¬ kk = 5 → S23 kk ii = S kk ii := fun kk ii hk => (hf23 kk ii (by omega))
    rw [← hQ]
    exact z_iret (z := z23) CX hW (by rw [hE]; exact ⟨rfl, rfl, hI23, hFr, (show -1 ≤ z23 ∧ z23 ≤ 5 from by omega)⟩) rfl dX12_make_26
  ·
    refine lv_aload_n hX0 hB0 dX12_make_9 rfl (lv_at hl 0 rfl) ?_
    refine lv_iload_n hX0 hB0 dX12_make_10 rfl (lv_at hl 1 rfl) ?_
    refine lv_iload_n hX0 hB0 dX12_make_11 rfl (lv_at hl 2 rfl) ?_
    refine lv_iload_n hX0 hB0 dX12_make_12 rfl (lv_at hl 3 rfl) ?_
    refine lv_iload hX0 hB0 dX12_make_13 (lv_at hl 4 rfl) ?_
    refine z_calli hW (va_runV (C := RX12) (As := [.int (zI a), .int (zI b), .int (zI how), .int (zI t)]) (rest := []) CX.fix (zk_makes l o S a b how t hI (by constructor <;> omega) (by constructor <;> omega) (by constructor <;> omega) (by constructor <;> omega) hH) (cwV 4 CX.fix.2.2.2.2 gX12_make_X12_makes rfl rfl rfl (by decide +kernel) ⟨Nat.le_of_ble_eq_true rfl, Nat.le_of_ble_eq_true rfl⟩) (z_preV CX hW (r := (RX12, TX12, 37)) zMO_0 rfl) rfl rfl hl.1 rfl (lv_room (Nat.le_of_ble_eq_true rfl)) dX12_make_15 ⟨Nat.zero_le _, Nat.zero_le _⟩) (fun z15 gn H locs hok hW => ?_)
    obtain ⟨hz15, hg, hI15, hf15, hq15⟩ := hok
    obtain ⟨S15, hS15⟩ : ∃ q, q = (zm_makes S a b how t).2 := ⟨_, rfl⟩
    rw [← hS15] at hg hI15 hf15
    have t15_13 : S15 0 13 = S 0 13 := hf15 0 13 (by omega)
    skip
    try rw [← hS15] at hq15
    rw [hg] at hW
    clear hg
    have e15 : zm_makes S a b how t = (z15, S15) := Prod.ext hz15.symm hS15.symm
    clear hz15 hS15
    refine z_if_ne (tgt := 27) CX dX12_make_18 (by decide) (by constructor <;> omega) (fun c_18 => ?_) (fun c_18 => ?_)
    ·
      refine lv_aload_n hX0 hB0 dX12_make_27 rfl (lv_at hl 0 rfl) ?_
      refine z_callv hW (va_runV (C := RX12) (As := []) (rest := []) CX.fix (zk_keeps l o S15  hI15 ) (cwV 0 CX.fix.2.2.2.2 gX12_make_X12_keeps rfl rfl rfl (by decide +kernel) ⟨Nat.le_of_ble_eq_true rfl, Nat.le_of_ble_eq_true rfl⟩) (z_preV CX hW (r := (RX12, TX12, 37)) zMO_0 rfl) rfl rfl hl.1 rfl (lv_room (Nat.le_of_ble_eq_true rfl)) dX12_make_28 ⟨Nat.zero_le _, Nat.zero_le _⟩) (fun gn H locs hok hW => ?_)
      obtain ⟨hg, hI28, hf28, hq28⟩ := hok
      obtain ⟨S28, e28⟩ : ∃ q, zm_keeps S15 = q := ⟨_, rfl⟩
      rw [e28] at hg hI28 hf28
      have t28_13 : S28 0 13 = S15 0 13 := hf28 0 13 (by omega)
      skip
      try rw [e28] at hq28
      rw [hg] at hW
      clear hg
      refine lv_aload_n hX0 hB0 dX12_make_31 rfl (lv_at hl 0 rfl) ?_
      refine lv_aload_n hX0 hB0 dX12_make_32 rfl (lv_at hl 0 rfl) ?_
      refine z_get (Cn := RX12) (T := TX12) (N := 37) CX hW (v := .int (zI (S28 0 13))) zMO_0 rfl (fun w h => List.mem_cons_of_mem _ (List.mem_append_right _ h)) 13 (by decide) (List.mem_of_getElem? (i := 1) rfl) rfl rfl dX12_make_33 ?_
      have hr33 := hI28.s13
      refine lv_sipush (v := zI 144) hX0 hB0 dX12_make_36 (by decide) ?_
      refine z_callv hW (va_runV (C := RX12) (As := [.int (zI (S28 0 13)), .int (zI 144)]) (rest := []) CX.fix (zk_copies l o S28 (S28 0 13) 144 hI28 (by constructor <;> omega) (by constructor <;> omega)) (cwV 2 CX.fix.2.2.2.2 gX12_make_X12_copies rfl rfl rfl (by decide +kernel) ⟨Nat.le_of_ble_eq_true rfl, Nat.le_of_ble_eq_true rfl⟩) (z_preV CX hW (r := (RX12, TX12, 37)) zMO_0 rfl) rfl rfl hl.1 rfl (lv_room (Nat.le_of_ble_eq_true rfl)) dX12_make_39 ⟨Nat.zero_le _, Nat.zero_le _⟩) (fun gn H locs hok hW => ?_)
      obtain ⟨hg, hI39, hf39, hq39⟩ := hok
      obtain ⟨S39, e39⟩ : ∃ q, zm_copies S28 (S28 0 13) 144 = q := ⟨_, rfl⟩
      rw [e39] at hg hI39 hf39
      have t39_13 : S39 0 13 = S28 0 13 := hf39 0 13 (by omega)
      skip
      try rw [e39] at hq39
      rw [hg] at hW
      clear hg
      refine lv_aload_n hX0 hB0 dX12_make_42 rfl (lv_at hl 0 rfl) ?_
      refine z_get (Cn := RX12) (T := TX12) (N := 37) CX hW (v := .ref (o + 5)) zMO_0 rfl (fun w h => List.mem_cons_of_mem _ (List.mem_append_right _ h)) 14 (by decide) (List.mem_of_getElem? (i := 2) rfl) rfl rfl dX12_make_43 ?_
      refine lv_aload_n hX0 hB0 dX12_make_46 rfl (lv_at hl 0 rfl) ?_
      refine z_get (Cn := RX12) (T := TX12) (N := 37) CX hW (v := .int (zI (S39 0 13))) zMO_0 rfl (fun w h => List.mem_cons_of_mem _ (List.mem_append_right _ h)) 13 (by decide) (List.mem_of_getElem? (i := 1) rfl) rfl rfl dX12_make_47 ?_
      have hr47 := hI39.s13
      refine lv_iconst (v := zI 0) hX0 hB0 dX12_make_50 rfl ?_
      obtain ⟨S51, e51⟩ : ∃ q, za S39 5 ((S39 0 13).toNat) 0 = q := ⟨_, rfl⟩
      refine z_iast CX hW zMO_5 0 rfl (by refine ⟨?_, ?_, ?_⟩ <;> omega) (g := zMO cI cJ o S51 f) (zMO_w5.trans (by rw [← e51]; rfl)) dX12_make_51 (fun H locs hW => ?_)
      have hI51 : mI S51 := e51 ▸ hI39.w5 (by constructor <;> omega)
      have t51_13 : S51 0 13 = S39 0 13 := by rw [← e51]; exact za_ne (by omega)
      refine lv_aload_n hX0 hB0 dX12_make_52 rfl (lv_at hl 0 rfl) ?_
      refine lv_dup hX0 hB0 dX12_make_53 rfl ?_
      refine z_get (Cn := RX12) (T := TX12) (N := 37) CX hW (v := .int (zI (S51 0 13))) zMO_0 rfl (fun w h => List.mem_cons_of_mem _ (List.mem_append_right _ h)) 13 (by decide) (List.mem_of_getElem? (i := 1) rfl) rfl rfl dX12_make_54 ?_
      have hr54 := hI51.s13
      refine lv_iconst (v := zI 1) hX0 hB0 dX12_make_57 rfl ?_
      refine z_iadd (z := (S51 0 13) + 1) CX dX12_make_58 rfl ?_
      obtain ⟨S59, e59⟩ : ∃ q, za S51 0 13 ((S51 0 13) + 1) = q := ⟨_, rfl⟩
      refine z_put (Cn := RX12) (T := TX12) (N := 37) CX hW (v := .int (zI ((S51 0 13) + 1))) zMO_0 rfl (fun w h => List.mem_cons_of_mem _ (List.mem_append_right _ h)) tyX12 tyX12_ok nmX12 13 (by decide) (List.mem_of_getElem? (i := 1) rfl) rfl rfl rfl rfl (Nat.le_of_ble_eq_true rfl) (g := zMO cI cJ o S59 f) (zMO_s13.trans (by rw [e59])) dX12_make_59 (fun H locs hW => ?_)
      have hI59 : mI S59 := e59 ▸ hI51.v13 (by constructor <;> omega)
      have t59_13 : S59 0 13 = (S51 0 13) + 1 := by rw [← e59]; exact za_same
      refine lv_aload_n hX0 hB0 dX12_make_62 rfl (lv_at hl 0 rfl) ?_
      refine z_get (Cn := RX12) (T := TX12) (N := 37) CX hW (v := .int (zI (S59 0 13))) zMO_0 rfl (fun w h => List.mem_cons_of_mem _ (List.mem_append_right _ h)) 13 (by decide) (List.mem_of_getElem? (i := 1) rfl) rfl rfl dX12_make_63 ?_
      have hr63 := hI59.s13
      refine lv_iconst (v := zI 1) hX0 hB0 dX12_make_66 rfl ?_
      refine z_isub (z := (S59 0 13) - 1) CX dX12_make_67 rfl ?_
      have hE : zm_make S a b how t = ((S59 0 13) - 1, S59) := by unfold zm_make; exact zif_f c_6 (zlet_e e15 (zif_f c_18 (zlet_e e28 (zlet_e e39 (zlet_e e51 (zlet_e e59 rfl))))))
      have hFr : ∀ kk ii : Nat, ¬ (kk = 0 ∧ ii = 13) ∧ ¬ (kk = 0 ∧ ii = 35) ∧ ¬ kk = 13 ∧ ¬ kk = 14 ∧ ¬ kk = 15 ∧ ¬ kk = 2 ∧ ¬ kk = 20 ∧ ¬ kk = 3 ∧ ¬ kk = 4 ∧ ¬ kk = 5 → S59 kk ii = S kk ii := fun kk ii hk => (((((show S59 kk ii = S51 kk ii from by rw [← e59]; exact za_ne (by omega))).trans (show S51 kk ii = S39 kk ii from by rw [← e51]; exact za_ne (by omega))).trans (hf39 kk ii (by omega))).trans (hf28 kk ii (by omega))).trans (hf15 kk ii (by omega))
      rw [← hQ]
      exact z_iret (z := (S59 0 13) - 1) CX hW (by rw [hE]; exact ⟨rfl, rfl, hI59, hFr, (show -1 ≤ ((S59 0 13) - 1) ∧ ((S59 0 13) - 1) ≤ 5 from by omega)⟩) rfl dX12_make_68
    ·
      refine lv_aload_n hX0 hB0 dX12_make_21 rfl (lv_at hl 0 rfl) ?_
      refine lv_iconst (v := zI 3) hX0 hB0 dX12_make_22 rfl ?_
      refine z_calli hW (va_runV (C := RX12) (As := [.int (zI 3)]) (rest := []) CX.fix (zk_refuses l o S15 3 hI15 (by constructor <;> omega)) (cwV 1 CX.fix.2.2.2.2 gX12_make_X12_refuses rfl rfl rfl (by decide +kernel) ⟨Nat.le_of_ble_eq_true rfl, Nat.le_of_ble_eq_true rfl⟩) (z_preV CX hW (r := (RX12, TX12, 37)) zMO_0 rfl) rfl rfl hl.1 rfl (lv_room (Nat.le_of_ble_eq_true rfl)) dX12_make_23 ⟨Nat.zero_le _, Nat.zero_le _⟩) (fun z23 gn H locs hok hW => ?_)
      obtain ⟨hz23, hg, hI23, hf23, hq23⟩ := hok
      obtain ⟨S23, hS23⟩ : ∃ q, q = (zm_refuses S15 3).2 := ⟨_, rfl⟩
      rw [← hS23] at hg hI23 hf23
      have t23_13 : S23 0 13 = S15 0 13 := hf23 0 13 (by omega)
      skip
      try rw [← hS23] at hq23
      rw [hg] at hW
      clear hg
      have e23 : zm_refuses S15 3 = (z23, S23) := Prod.ext hz23.symm hS23.symm
      clear hz23 hS23
      have hE : zm_make S a b how t = (z23, S23) := by unfold zm_make; exact zif_f c_6 (zlet_e e15 (zif_t c_18 (zlet_e e23 rfl)))
      have hFr : ∀ kk ii : Nat, ¬ (kk = 0 ∧ ii = 13) ∧ ¬ (kk = 0 ∧ ii = 35) ∧ ¬ kk = 13 ∧ ¬ kk = 14 ∧ ¬ kk = 15 ∧ ¬ kk = 2 ∧ ¬ kk = 20 ∧ ¬ kk = 3 ∧ ¬ kk = 4 ∧ ¬ kk = 5 → S23 kk ii = S kk ii := fun kk ii hk => ((hf23 kk ii (by omega))).trans (hf15 kk ii (by omega))
      rw [← hQ]
      exact z_iret (z := z23) CX hW (by rw [hE]; exact ⟨rfl, rfl, hI23, hFr, (show -1 ≤ z23 ∧ z23 ≤ 5 from by omega)⟩) rfl dX12_make_26
def zm_drop_L26  : Int → zS2 → zS2 := fun i26 s26 => (fun (S26 : zS2) => zlet (zm_copies S26 i26 (i26 + 1)) (fun S41 => zlet (za S41 5 i26.toNat (S41 5 ((i26 + 1).toNat))) (fun S57 => S57))) s26
def zm_drop (S : zS2) (cv : Int) : Int × zS2 := zlet (zm_isCurve S cv) (fun z2 => (if z2 = 0 then zlet (zm_refuses S 3) (fun q10 => (fun (z10 : Int) (S10 : zS2) => (z10, S10)) q10.1 q10.2) else zlet (zm_keeps S) (fun S15 => zlet (zm_degreeOf S15 cv) (fun z20 => zlet (zfor (zm_drop_L26) cv S15 ((S15 0 13 - 2) + 1 - cv).toNat) (fun S26 => zlet (za S26 0 13 ((S26 0 13) - 1)) (fun S71 => (z20, S71)))))))
set_option maxRecDepth 100000 in
set_option maxHeartbeats 4000000 in
theorem zk_drop (l : Launch) {D : va_G} {cI cJ cZ cP cS cM : ClassId} {L : List Nat} {sz : Nat} {f : Nat → va_E} (o : Nat) (S : zS2) (cv : Int) (hI : mI S) (hcv : -2147483648 ≤ cv ∧ cv ≤ 2147483647) : zMi l yX12_drop wsX12_drop 2 47 D (zT cI cJ cZ cP cS cM) L sz (zMO cI cJ o S f) [.ref o, .int (zI cv)] (fun zv gv => zv = (zm_drop S cv).1 ∧ gv = zMO cI cJ o (zm_drop S cv).2 f ∧ mI (zm_drop S cv).2 ∧ (∀ kk ii : Nat, ¬ (kk = 0 ∧ ii = 13) ∧ ¬ (kk = 0 ∧ ii = 35) ∧ ¬ kk = 2 ∧ ¬ kk = 20 ∧ ¬ kk = 3 ∧ ¬ kk = 5 → (zm_drop S cv).2 kk ii = S kk ii) ∧ -1 ≤ zv ∧ zv ≤ 4) := by
  refine zWalk.met (nL := 4) (ret := (some .int)) (cc := cX12_drop) (by decide) rfl (Nat.le_of_ble_eq_true rfl) ?_
  intro pg en st mi ag bl mt cd ls CX hW hl
  have CX : zC pg st mi ag mt cd cX12_drop 4 (some .int) RX12 wsX12_drop := CX
  generalize hQ : MQ bl _ ag st 0 0 _ = Q
  have hX0 := CX.1
  have hB0 := CX.2.1
  have hl : lv_has ls 4 [(0, .ref o), (1, .int (zI cv))] := hl
  obtain ⟨H, eH⟩ : ∃ H, H = st.heap := ⟨_, rfl⟩
  obtain ⟨locs, eL⟩ : ∃ L : List Loc, L = [] := ⟨_, rfl⟩
  have hW : zW D (zT cI cJ cZ cP cS cM) L (zQ L sz) st (zMO cI cJ o S f) st.heap H locs := by rw [eH, eL]; exact hW
  suffices hgo : W pg l en ({ frames := 2, cells := 0, slots := 0, locals := 47 } : Room) st mi ag bl mt cd H locs 0 0 Q (F0 mi 0 ls []) by rw [eH, eL] at hgo; exact hgo
  clear eH eL
  have hpb := hI.s10
  refine lv_aload_n hX0 hB0 dX12_drop_0 rfl (lv_at hl 0 rfl) ?_
  refine lv_iload_n hX0 hB0 dX12_drop_1 rfl (lv_at hl 1 rfl) ?_
  refine z_calli hW (va_runV (C := RX12) (As := [.int (zI cv)]) (rest := []) CX.fix (zk_isCurve l o S cv hI (by constructor <;> omega)) (cwV 1 CX.fix.2.2.2.2 gX12_drop_X12_isCurve rfl rfl rfl (by decide +kernel) ⟨Nat.le_of_ble_eq_true rfl, Nat.le_of_ble_eq_true rfl⟩) (z_preV CX hW (r := (RX12, TX12, 37)) zMO_0 rfl) rfl rfl hl.1 rfl (lv_room (Nat.le_of_ble_eq_true rfl)) dX12_drop_2 ⟨Nat.zero_le _, Nat.zero_le _⟩) (fun z2 gn H locs hok hW => ?_)
  obtain ⟨hz2, hg, hq2⟩ := hok
  rw [hg] at hW
  clear hg
  have e2 : zm_isCurve S cv = z2 := hz2.symm
  clear hz2
  refine z_if_ne (tgt := 14) CX dX12_drop_5 (by decide) (by constructor <;> omega) (fun c_5 => ?_) (fun c_5 => ?_)
  ·
    refine lv_aload_n hX0 hB0 dX12_drop_14 rfl (lv_at hl 0 rfl) ?_
    refine z_callv hW (va_runV (C := RX12) (As := []) (rest := []) CX.fix (zk_keeps l o S  hI ) (cwV 0 CX.fix.2.2.2.2 gX12_drop_X12_keeps rfl rfl rfl (by decide +kernel) ⟨Nat.le_of_ble_eq_true rfl, Nat.le_of_ble_eq_true rfl⟩) (z_preV CX hW (r := (RX12, TX12, 37)) zMO_0 rfl) rfl rfl hl.1 rfl (lv_room (Nat.le_of_ble_eq_true rfl)) dX12_drop_15 ⟨Nat.zero_le _, Nat.zero_le _⟩) (fun gn H locs hok hW => ?_)
    obtain ⟨hg, hI15, hf15, hq15⟩ := hok
    obtain ⟨S15, e15⟩ : ∃ q, zm_keeps S = q := ⟨_, rfl⟩
    rw [e15] at hg hI15 hf15
    have t15_13 : S15 0 13 = S 0 13 := hf15 0 13 (by omega)
    skip
    try rw [e15] at hq15
    rw [hg] at hW
    clear hg
    refine lv_aload_n hX0 hB0 dX12_drop_18 rfl (lv_at hl 0 rfl) ?_
    refine lv_iload_n hX0 hB0 dX12_drop_19 rfl (lv_at hl 1 rfl) ?_
    refine z_calli hW (va_runV (C := RX12) (As := [.int (zI cv)]) (rest := []) CX.fix (zk_degreeOf l o S15 cv hI15 (by constructor <;> omega)) (cwV 1 CX.fix.2.2.2.2 gX12_drop_X12_degreeOf rfl rfl rfl (by decide +kernel) ⟨Nat.le_of_ble_eq_true rfl, Nat.le_of_ble_eq_true rfl⟩) (z_preV CX hW (r := (RX12, TX12, 37)) zMO_0 rfl) rfl rfl hl.1 rfl (lv_room (Nat.le_of_ble_eq_true rfl)) dX12_drop_20 ⟨Nat.zero_le _, Nat.zero_le _⟩) (fun z20 gn H locs hok hW => ?_)
    obtain ⟨hz20, hg, hq20⟩ := hok
    rw [hg] at hW
    clear hg
    have e20 : zm_degreeOf S15 cv = z20 := hz20.symm
    clear hz20
    refine lv_istore_n (lv' := [(2, .int (zI z20)), (0, .ref o), (1, .int (zI cv))]) hX0 hB0 dX12_drop_23 rfl hl (by decide) rfl (fun ls hl => ?_)
    refine lv_iload_n hX0 hB0 dX12_drop_24 rfl (lv_at hl 2 rfl) ?_
    refine lv_istore_n (lv' := [(3, .int (zI cv)), (2, .int (zI z20)), (0, .ref o), (1, .int (zI cv))]) hX0 hB0 dX12_drop_25 rfl hl (by decide) rfl (fun ls hl => ?_)
    have hL26 : ∀ (fu : Nat) (i26 : Int) (S26 : zS2), ((cv ≤ i26 ∧ i26 ≤ S15 0 13 - 2 + 1) ∧ zfor (zm_drop_L26) cv S15 (i26 - cv).toNat = S26 ∧ mI S26 ∧ (∀ kk ii : Nat, ¬ kk = 3 ∧ ¬ kk = 5 → S26 kk ii = S15 kk ii)) → ((S15 0 13 - 2) + 1 - i26).toNat < fu → ∀ (H : Heap) (locs : List Loc) (ls : Array Slot), zW D (zT cI cJ cZ cP cS cM) L (zQ L sz) st (zMO cI cJ o S26 f) st.heap H locs → lv_has ls 4 [(3, .int (zI i26)), (2, .int (zI z20)), (0, .ref o), (1, .int (zI cv))] → W pg l en ({ frames := 2, cells := 0, slots := 0, locals := 47 } : Room) st mi ag bl mt cd H locs 0 0 Q (F0 mi 26 ls []) := by
      intro fu
      induction fu with
      | zero => intro i26 S26 _ hfu; exact absurd hfu (Nat.not_lt_zero _)
      | succ fu ih26 =>
        intro i26 S26 hinv hfu26 H locs ls hW hl
        obtain ⟨⟨hlo26, hhi26⟩, hz26, hI26, hf26⟩ := hinv
        have hp26 := hI26.s10
        have t26_13 : S26 0 13 = S15 0 13 := hf26 0 13 (by omega)
        refine lv_iload_n hX0 hB0 dX12_drop_26 rfl (lv_at hl 0 rfl) ?_
        refine lv_aload_n hX0 hB0 dX12_drop_27 rfl (lv_at hl 2 rfl) ?_
        refine z_get (Cn := RX12) (T := TX12) (N := 37) CX hW (v := .int (zI (S26 0 13))) zMO_0 rfl (fun w h => List.mem_cons_of_mem _ (List.mem_append_right _ h)) 13 (by decide) (List.mem_of_getElem? (i := 1) rfl) rfl rfl dX12_drop_28 ?_
        have hr28 := hI26.s13
        refine lv_iconst (v := zI 1) hX0 hB0 dX12_drop_31 rfl ?_
        refine z_isub (z := (S26 0 13) - 1) CX dX12_drop_32 rfl ?_
        refine z_icmp_ge (tgt := 64) CX dX12_drop_33 (by decide) (by constructor <;> omega) (by constructor <;> omega) (fun c_33 => ?_) (fun c_33 => ?_)
        ·
          have e26 : zfor (zm_drop_L26) cv S15 ((S15 0 13 - 2) + 1 - cv).toNat = S26 := by rw [show ((S15 0 13 - 2) + 1 - cv).toNat = (i26 - cv).toNat by omega]; exact hz26
          refine lv_aload_n hX0 hB0 dX12_drop_64 rfl (lv_at hl 2 rfl) ?_
          refine lv_dup hX0 hB0 dX12_drop_65 rfl ?_
          refine z_get (Cn := RX12) (T := TX12) (N := 37) CX hW (v := .int (zI (S26 0 13))) zMO_0 rfl (fun w h => List.mem_cons_of_mem _ (List.mem_append_right _ h)) 13 (by decide) (List.mem_of_getElem? (i := 1) rfl) rfl rfl dX12_drop_66 ?_
          have hr66 := hI26.s13
          refine lv_iconst (v := zI 1) hX0 hB0 dX12_drop_69 rfl ?_
          refine z_isub (z := (S26 0 13) - 1) CX dX12_drop_70 rfl ?_
          obtain ⟨S71, e71⟩ : ∃ q, za S26 0 13 ((S26 0 13) - 1) = q := ⟨_, rfl⟩
          refine z_put (Cn := RX12) (T := TX12) (N := 37) CX hW (v := .int (zI ((S26 0 13) - 1))) zMO_0 rfl (fun w h => List.mem_cons_of_mem _ (List.mem_append_right _ h)) tyX12 tyX12_ok nmX12 13 (by decide) (List.mem_of_getElem? (i := 1) rfl) rfl rfl rfl rfl (Nat.le_of_ble_eq_true rfl) (g := zMO cI cJ o S71 f) (zMO_s13.trans (by rw [e71])) dX12_drop_71 (fun H locs hW => ?_)
          have hI71 : mI S71 := e71 ▸ hI26.v13 (by constructor <;> omega)
          have t71_13 : S71 0 13 = (S26 0 13) - 1 := by rw [← e71]; exact za_same
          refine lv_iload_n hX0 hB0 dX12_drop_74 rfl (lv_at hl 1 rfl) ?_
          have hE : zm_drop S cv = (z20, S71) := by unfold zm_drop; exact zlet_e e2 (zif_f c_5 (zlet_e e15 (zlet_e e20 (zlet_e e26 (zlet_e e71 rfl)))))
          have hFr : ∀ kk ii : Nat, ¬ (kk = 0 ∧ ii = 13) ∧ ¬ (kk = 0 ∧ ii = 35) ∧ ¬ kk = 2 ∧ ¬ kk = 20 ∧ ¬ kk = 3 ∧ ¬ kk = 5 → S71 kk ii = S kk ii := fun kk ii hk => (((show S71 kk ii = S26 kk ii from by rw [← e71]; exact za_ne (by omega))).trans (hf26 kk ii (by omega))).trans (hf15 kk ii (by omega))
          rw [← hQ]
          exact z_iret (z := z20) CX hW (by rw [hE]; exact ⟨rfl, rfl, hI71, hFr, (show -1 ≤ z20 ∧ z20 ≤ 4 from by omega)⟩) rfl dX12_drop_75
        ·
          refine lv_aload_n hX0 hB0 dX12_drop_36 rfl (lv_at hl 2 rfl) ?_
          refine lv_iload_n hX0 hB0 dX12_drop_37 rfl (lv_at hl 0 rfl) ?_
          refine lv_iload_n hX0 hB0 dX12_drop_38 rfl (lv_at hl 0 rfl) ?_
          refine lv_iconst (v := zI 1) hX0 hB0 dX12_drop_39 rfl ?_
          refine z_iadd (z := i26 + 1) CX dX12_drop_40 rfl ?_
          refine z_callv hW (va_runV (C := RX12) (As := [.int (zI i26), .int (zI (i26 + 1))]) (rest := []) CX.fix (zk_copies l o S26 i26 (i26 + 1) hI26 (by constructor <;> omega) (by constructor <;> omega)) (cwV 2 CX.fix.2.2.2.2 gX12_drop_X12_copies rfl rfl rfl (by decide +kernel) ⟨Nat.le_of_ble_eq_true rfl, Nat.le_of_ble_eq_true rfl⟩) (z_preV CX hW (r := (RX12, TX12, 37)) zMO_0 rfl) rfl rfl hl.1 rfl (lv_room (Nat.le_of_ble_eq_true rfl)) dX12_drop_41 ⟨Nat.zero_le _, Nat.zero_le _⟩) (fun gn H locs hok hW => ?_)
          obtain ⟨hg, hI41, hf41, hq41⟩ := hok
          obtain ⟨S41, e41⟩ : ∃ q, zm_copies S26 i26 (i26 + 1) = q := ⟨_, rfl⟩
          rw [e41] at hg hI41 hf41
          have t41_13 : S41 0 13 = S26 0 13 := hf41 0 13 (by omega)
          skip
          try rw [e41] at hq41
          rw [hg] at hW
          clear hg
          refine lv_aload_n hX0 hB0 dX12_drop_44 rfl (lv_at hl 2 rfl) ?_
          refine z_get (Cn := RX12) (T := TX12) (N := 37) CX hW (v := .ref (o + 5)) zMO_0 rfl (fun w h => List.mem_cons_of_mem _ (List.mem_append_right _ h)) 14 (by decide) (List.mem_of_getElem? (i := 2) rfl) rfl rfl dX12_drop_45 ?_
          refine lv_iload_n hX0 hB0 dX12_drop_48 rfl (lv_at hl 0 rfl) ?_
          refine lv_aload_n hX0 hB0 dX12_drop_49 rfl (lv_at hl 2 rfl) ?_
          refine z_get (Cn := RX12) (T := TX12) (N := 37) CX hW (v := .ref (o + 5)) zMO_0 rfl (fun w h => List.mem_cons_of_mem _ (List.mem_append_right _ h)) 14 (by decide) (List.mem_of_getElem? (i := 2) rfl) rfl rfl dX12_drop_50 ?_
          refine lv_iload_n hX0 hB0 dX12_drop_53 rfl (lv_at hl 0 rfl) ?_
          refine lv_iconst (v := zI 1) hX0 hB0 dX12_drop_54 rfl ?_
          refine z_iadd (z := i26 + 1) CX dX12_drop_55 rfl ?_
          refine z_iald (z := S41 5 ((i26 + 1).toNat)) CX hW zMO_5 0 rfl (by refine ⟨?_, ?_, ?_⟩ <;> omega) rfl dX12_drop_56 ?_
          have hr56 := hI41.r5 ((i26 + 1).toNat)
          obtain ⟨S57, e57⟩ : ∃ q, za S41 5 i26.toNat (S41 5 ((i26 + 1).toNat)) = q := ⟨_, rfl⟩
          refine z_iast CX hW zMO_5 0 rfl (by refine ⟨?_, ?_, ?_⟩ <;> omega) (g := zMO cI cJ o S57 f) (zMO_w5.trans (by rw [← e57]; rfl)) dX12_drop_57 (fun H locs hW => ?_)
          have hI57 : mI S57 := e57 ▸ hI41.w5 (by constructor <;> omega)
          have t57_13 : S57 0 13 = S41 0 13 := by rw [← e57]; exact za_ne (by omega)
          refine lv_iinc (v := zI (i26 + 1)) (lv' := [(3, .int (zI (i26 + 1))), (2, .int (zI z20)), (0, .ref o), (1, .int (zI cv))]) hX0 hB0 dX12_drop_58 hl (k := 0) rfl (zI_add _ _) (by decide) rfl (fun ls hl => ?_)
          refine lv_goto (tgt := 26) hX0 hB0 dX12_drop_61 (by decide) ?_
          exact ih26 (i26 + 1) S57 ⟨⟨by omega, by omega⟩, (zfor_s _ _ _ (by omega)).trans ((congrArg (zm_drop_L26 i26) hz26).trans (by unfold zm_drop_L26; exact zlet_e e41 (zlet_e e57 rfl))), hI57, fun kk ii hk => (((show S57 kk ii = S41 kk ii from by rw [← e57]; exact za_ne (by omega))).trans (hf41 kk ii (by omega))).trans (hf26 kk ii (by omega))⟩ (by omega) H locs ls hW (lv_sub hl [0, 1, 2, 3] rfl)
    have hb13 := hI15.s13
    have hci := hq2.2.2 (by omega)
    exact hL26 _ cv S15 ⟨⟨by omega, by omega⟩, zfor_0 _ _ _, hI15, fun kk ii hk => rfl⟩ (Nat.lt_succ_self _) H locs ls hW (lv_sub hl [0, 1, 2, 3] rfl)
  ·
    refine lv_aload_n hX0 hB0 dX12_drop_8 rfl (lv_at hl 0 rfl) ?_
    refine lv_iconst (v := zI 3) hX0 hB0 dX12_drop_9 rfl ?_
    refine z_calli hW (va_runV (C := RX12) (As := [.int (zI 3)]) (rest := []) CX.fix (zk_refuses l o S 3 hI (by constructor <;> omega)) (cwV 1 CX.fix.2.2.2.2 gX12_drop_X12_refuses rfl rfl rfl (by decide +kernel) ⟨Nat.le_of_ble_eq_true rfl, Nat.le_of_ble_eq_true rfl⟩) (z_preV CX hW (r := (RX12, TX12, 37)) zMO_0 rfl) rfl rfl hl.1 rfl (lv_room (Nat.le_of_ble_eq_true rfl)) dX12_drop_10 ⟨Nat.zero_le _, Nat.zero_le _⟩) (fun z10 gn H locs hok hW => ?_)
    obtain ⟨hz10, hg, hI10, hf10, hq10⟩ := hok
    obtain ⟨S10, hS10⟩ : ∃ q, q = (zm_refuses S 3).2 := ⟨_, rfl⟩
    rw [← hS10] at hg hI10 hf10
    have t10_13 : S10 0 13 = S 0 13 := hf10 0 13 (by omega)
    skip
    try rw [← hS10] at hq10
    rw [hg] at hW
    clear hg
    have e10 : zm_refuses S 3 = (z10, S10) := Prod.ext hz10.symm hS10.symm
    clear hz10 hS10
    have hE : zm_drop S cv = (z10, S10) := by unfold zm_drop; exact zlet_e e2 (zif_t c_5 (zlet_e e10 rfl))
    have hFr : ∀ kk ii : Nat, ¬ (kk = 0 ∧ ii = 13) ∧ ¬ (kk = 0 ∧ ii = 35) ∧ ¬ kk = 2 ∧ ¬ kk = 20 ∧ ¬ kk = 3 ∧ ¬ kk = 5 → S10 kk ii = S kk ii := fun kk ii hk => (hf10 kk ii (by omega))
    rw [← hQ]
    exact z_iret (z := z10) CX hW (by rw [hE]; exact ⟨rfl, rfl, hI10, hFr, (show -1 ≤ z10 ∧ z10 ≤ 4 from by omega)⟩) rfl dX12_drop_13
def zm_status (S : zS2) (what : Int) : Int := zlet (zm_isIn what 0 4) (fun z3 => (if z3 = 0 then -1 else S 2 what.toNat))
set_option maxRecDepth 100000 in
set_option maxHeartbeats 4000000 in
theorem zk_status (l : Launch) {D : va_G} {cI cJ cZ cP cS cM : ClassId} {L : List Nat} {sz : Nat} {f : Nat → va_E} (o : Nat) (S : zS2) (what : Int) (hI : mI S) (hwhat : -2147483648 ≤ what ∧ what ≤ 2147483647) : zMi l yX12_status wsX12_status 1 22 D (zT cI cJ cZ cP cS cM) L sz (zMO cI cJ o S f) [.ref o, .int (zI what)] (fun zv gv => zv = zm_status S what ∧ gv = zMO cI cJ o S f ∧ True) := by
  refine zWalk.met (nL := 2) (ret := (some .int)) (cc := cX12_status) (by decide) rfl (Nat.le_of_ble_eq_true rfl) ?_
  intro pg en st mi ag bl mt cd ls CX hW hl
  have CX : zC pg st mi ag mt cd cX12_status 2 (some .int) RX12 wsX12_status := CX
  generalize hQ : MQ bl _ ag st 0 0 _ = Q
  have hX0 := CX.1
  have hB0 := CX.2.1
  have hl : lv_has ls 2 [(0, .ref o), (1, .int (zI what))] := hl
  obtain ⟨H, eH⟩ : ∃ H, H = st.heap := ⟨_, rfl⟩
  obtain ⟨locs, eL⟩ : ∃ L : List Loc, L = [] := ⟨_, rfl⟩
  have hW : zW D (zT cI cJ cZ cP cS cM) L (zQ L sz) st (zMO cI cJ o S f) st.heap H locs := by rw [eH, eL]; exact hW
  suffices hgo : W pg l en ({ frames := 1, cells := 0, slots := 0, locals := 22 } : Room) st mi ag bl mt cd H locs 0 0 Q (F0 mi 0 ls []) by rw [eH, eL] at hgo; exact hgo
  clear eH eL
  have hpb := hI.s10
  refine lv_iload_n hX0 hB0 dX12_status_0 rfl (lv_at hl 1 rfl) ?_
  refine lv_iconst (v := zI 0) hX0 hB0 dX12_status_1 rfl ?_
  refine lv_iconst (v := zI 4) hX0 hB0 dX12_status_2 rfl ?_
  refine z_calli hW (va_runS (As := [.int (zI what), .int (zI 0), .int (zI 4)]) (rest := []) CX.fix (zk_isIn l (f := zMO cI cJ o S f) what 0 4 (by constructor <;> omega) (by constructor <;> omega) (by constructor <;> omega)) (va_cwS 3 CX.fix.2.2.2.2 gX12_status_X12_isIn rfl rfl rfl (by decide +kernel) ⟨Nat.le_of_ble_eq_true rfl, Nat.le_of_ble_eq_true rfl⟩) (z_preS CX hW) rfl rfl hl.1 rfl (lv_room (Nat.le_of_ble_eq_true rfl)) dX12_status_3 ⟨Nat.zero_le _, Nat.zero_le _⟩) (fun z3 gn H locs hok hW => ?_)
  obtain ⟨hz3, hg, hq3⟩ := hok
  rw [hg] at hW
  clear hg
  have e3 : zm_isIn what 0 4 = z3 := hz3.symm
  clear hz3
  refine z_if_eq (tgt := 18) CX dX12_status_6 (by decide) (by constructor <;> omega) (fun c_6 => ?_) (fun c_6 => ?_)
  ·
    refine lv_iconst (v := zI (-1)) hX0 hB0 dX12_status_18 rfl ?_
    have hE : zm_status S what = -1 := by unfold zm_status; exact zlet_e e3 (zif_t c_6 rfl)
    rw [← hQ]
    exact z_iret (z := -1) CX hW (by rw [hE]; exact ⟨rfl, rfl, trivial⟩) rfl dX12_status_19
  ·
    refine lv_aload_n hX0 hB0 dX12_status_9 rfl (lv_at hl 0 rfl) ?_
    refine z_get (Cn := RX12) (T := TX12) (N := 37) CX hW (v := .ref (o + 2)) zMO_0 rfl (fun w h => List.mem_cons_of_mem _ (List.mem_append_right _ h)) 2 (by decide) (List.mem_of_getElem? (i := 1) rfl) rfl rfl dX12_status_10 ?_
    refine lv_iload_n hX0 hB0 dX12_status_13 rfl (lv_at hl 1 rfl) ?_
    refine z_iald (z := S 2 what.toNat) CX hW zMO_2 0 rfl (by refine ⟨?_, ?_, ?_⟩ <;> omega) rfl dX12_status_14 ?_
    refine lv_goto (tgt := 19) hX0 hB0 dX12_status_15 (by decide) ?_
    have hE : zm_status S what = S 2 what.toNat := by unfold zm_status; exact zlet_e e3 (zif_f c_6 rfl)
    rw [← hQ]
    exact z_iret (z := S 2 what.toNat) CX hW (by rw [hE]; exact ⟨rfl, rfl, trivial⟩) rfl dX12_status_19
end ZMr
