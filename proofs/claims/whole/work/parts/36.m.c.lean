section ZMg
theorem zpow_s (n : Nat) : (32 : Int) ^ (n + 1) = 32 * 32 ^ n := by rw [Int.pow_succ]; omega
theorem zpow_6 {n : Nat} (h : n ≤ 6) : (1 : Int) ≤ 32 ^ n ∧ (32 : Int) ^ n ≤ 1073741824 := by
  have key : ∀ m : Nat, m ≤ 6 → (1 : Int) ≤ 32 ^ m ∧ (32 : Int) ^ m ≤ 1073741824 := by decide +kernel
  exact key n h
def zm_isSpelled_J1 (b : Int) : Int := (if b = 0 then 1 else 5)
def zm_isSpelled (S : zS2) (a : Int) (b : Int) (c : Int) (d : Int) (e : Int) : Int := zlet (zm_isSpelled_J1 b) (fun n1j => (if (S 0 6) - (S 0 7) = n1j then (if S 1 ((S 0 7).toNat) = a then (if n1j = 1 then 1 else (if S 1 (((S 0 7) + 1).toNat) = b then (if S 1 (((S 0 7) + 2).toNat) = c then (if S 1 (((S 0 7) + 3).toNat) = d then (if S 1 (((S 0 7) + 4).toNat) = e then 1 else 0) else 0) else 0) else 0)) else 0) else 0))
set_option maxRecDepth 100000 in
set_option maxHeartbeats 4000000 in
theorem zk_isSpelled (l : Launch) {D : va_G} {cI cJ cZ cP cS cM : ClassId} {L : List Nat} {sz : Nat} {f : Nat → va_E} (o : Nat) (S : zS2) (a : Int) (b : Int) (c : Int) (d : Int) (e : Int) (hI : mI S) (ha : 0 ≤ a ∧ a ≤ 255) (hb : 0 ≤ b ∧ b ≤ 255) (hc : 0 ≤ c ∧ c ≤ 255) (hd : 0 ≤ d ∧ d ≤ 255) (he : 0 ≤ e ∧ e ≤ 255) : zMi l yX12_isSpelled wsX12_isSpelled 0 0 D (zT cI cJ cZ cP cS cM) L sz (zMO cI cJ o S f) [.ref o, .int (zI a), .int (zI b), .int (zI c), .int (zI d), .int (zI e)] (fun zv gv => zv = zm_isSpelled S a b c d e ∧ gv = zMO cI cJ o S f ∧ 0 ≤ zv ∧ zv ≤ 1) := by
  refine zWalk.met (nL := 7) (ret := (some .boolean)) (cc := cX12_isSpelled) (by decide) rfl (Nat.le_of_ble_eq_true rfl) ?_
  intro pg en st mi ag bl mt cd ls CX hW hl
  have CX : zC pg st mi ag mt cd cX12_isSpelled 7 (some .boolean) RX12 wsX12_isSpelled := CX
  generalize hQ : MQ bl _ ag st 0 0 _ = Q
  have hX0 := CX.1
  have hB0 := CX.2.1
  have hl : lv_has ls 7 [(0, .ref o), (1, .int (zI a)), (2, .int (zI b)), (3, .int (zI c)), (4, .int (zI d)), (5, .int (zI e))] := hl
  obtain ⟨H, eH⟩ : ∃ H, H = st.heap := ⟨_, rfl⟩
  obtain ⟨locs, eL⟩ : ∃ L : List Loc, L = [] := ⟨_, rfl⟩
  have hW : zW D (zT cI cJ cZ cP cS cM) L (zQ L sz) st (zMO cI cJ o S f) st.heap H locs := by rw [eH, eL]; exact hW
  suffices hgo : W pg l en ({ frames := 0, cells := 0, slots := 0, locals := 0 } : Room) st mi ag bl mt cd H locs 0 0 Q (F0 mi 0 ls []) by rw [eH, eL] at hgo; exact hgo
  clear eH eL
  have hpb := hI.s10
  have hbb := hI.s7
  have hba := hI.s6
  refine lv_iload_n hX0 hB0 dX12_isSpelled_0 rfl (lv_at hl 2 rfl) ?_
  have hJ1 : ∀ (n1j : Int), (zm_isSpelled_J1 b = n1j ∧ 1 ≤ n1j ∧ n1j ≤ 5 ∧ (n1j = 1 ∨ n1j = 5)) → ∀ (H : Heap) (locs : List Loc) (ls : Array Slot), zW D (zT cI cJ cZ cP cS cM) L (zQ L sz) st (zMO cI cJ o S f) st.heap H locs → lv_has ls 7 [(0, .ref o), (1, .int (zI a)), (2, .int (zI b)), (3, .int (zI c)), (4, .int (zI d)), (5, .int (zI e))] → W pg l en ({ frames := 0, cells := 0, slots := 0, locals := 0 } : Room) st mi ag bl mt cd H locs 0 0 Q (F0 mi 9 ls [.int (zI n1j)]) := by
    intro n1j hinv H locs ls hW hl
    obtain ⟨e1j, han1j, hbn1j, hv1j⟩ := hinv
    refine lv_istore (lv' := [(6, .int (zI n1j)), (0, .ref o), (1, .int (zI a)), (2, .int (zI b)), (3, .int (zI c)), (4, .int (zI d)), (5, .int (zI e))]) hX0 hB0 dX12_isSpelled_9 hl (by decide) rfl (fun ls hl => ?_)
    refine lv_aload_n hX0 hB0 dX12_isSpelled_11 rfl (lv_at hl 1 rfl) ?_
    refine z_get (Cn := RX12) (T := TX12) (N := 37) CX hW (v := .int (zI (S 0 6))) zMO_0 rfl (fun w h => List.mem_cons_of_mem _ (List.mem_append_right _ h)) 6 (by decide) (List.mem_of_getElem? (i := 1) rfl) rfl rfl dX12_isSpelled_12 ?_
    have hr12 := hI.s6
    refine lv_aload_n hX0 hB0 dX12_isSpelled_15 rfl (lv_at hl 1 rfl) ?_
    refine z_get (Cn := RX12) (T := TX12) (N := 37) CX hW (v := .int (zI (S 0 7))) zMO_0 rfl (fun w h => List.mem_cons_of_mem _ (List.mem_append_right _ h)) 7 (by decide) (List.mem_of_getElem? (i := 2) rfl) rfl rfl dX12_isSpelled_16 ?_
    have hr16 := hI.s7
    refine z_isub (z := (S 0 6) - (S 0 7)) CX dX12_isSpelled_19 rfl ?_
    refine lv_iload hX0 hB0 dX12_isSpelled_20 (lv_at hl 0 rfl) ?_
    refine z_icmp_ne (tgt := 38) CX dX12_isSpelled_22 (by decide) (by constructor <;> omega) (by constructor <;> omega) (fun c_22 => ?_) (fun c_22 => ?_)
    ·
      refine lv_iconst (v := zI 0) hX0 hB0 dX12_isSpelled_38 rfl ?_
      have hE : zm_isSpelled S a b c d e = 0 := by unfold zm_isSpelled; exact zlet_e e1j (zif_f c_22 rfl)
      rw [← hQ]
      exact z_iret (z := 0) CX hW (by rw [hE]; exact ⟨rfl, rfl, (show 0 ≤ (0 : Int) ∧ (0 : Int) ≤ 1 from by omega)⟩) rfl dX12_isSpelled_39
    ·
      refine lv_aload_n hX0 hB0 dX12_isSpelled_25 rfl (lv_at hl 1 rfl) ?_
      refine z_get (Cn := RX12) (T := TX12) (N := 37) CX hW (v := .ref (o + 1)) zMO_0 rfl (fun w h => List.mem_cons_of_mem _ (List.mem_append_right _ h)) 0 (by decide) (List.mem_of_getElem? (i := 3) rfl) rfl rfl dX12_isSpelled_26 ?_
      refine lv_aload_n hX0 hB0 dX12_isSpelled_29 rfl (lv_at hl 1 rfl) ?_
      refine z_get (Cn := RX12) (T := TX12) (N := 37) CX hW (v := .int (zI (S 0 7))) zMO_0 rfl (fun w h => List.mem_cons_of_mem _ (List.mem_append_right _ h)) 7 (by decide) (List.mem_of_getElem? (i := 2) rfl) rfl rfl dX12_isSpelled_30 ?_
      have hr30 := hI.s7
      refine z_iald (z := S 1 ((S 0 7).toNat)) CX hW zMO_1 0 rfl (by refine ⟨?_, ?_, ?_⟩ <;> omega) rfl dX12_isSpelled_33 ?_
      have hr33 := hI.r1 ((S 0 7).toNat)
      refine lv_iload_n hX0 hB0 dX12_isSpelled_34 rfl (lv_at hl 2 rfl) ?_
      refine z_icmp_eq (tgt := 40) CX dX12_isSpelled_35 (by decide) (by constructor <;> omega) (by constructor <;> omega) (fun c_35 => ?_) (fun c_35 => ?_)
      ·
        refine lv_iload hX0 hB0 dX12_isSpelled_40 (lv_at hl 0 rfl) ?_
        refine lv_iconst (v := zI 1) hX0 hB0 dX12_isSpelled_42 rfl ?_
        refine z_icmp_eq (tgt := 108) CX dX12_isSpelled_43 (by decide) (by constructor <;> omega) (by constructor <;> omega) (fun c_43 => ?_) (fun c_43 => ?_)
        ·
          refine lv_iconst (v := zI 1) hX0 hB0 dX12_isSpelled_108 rfl ?_
          refine lv_goto (tgt := 113) hX0 hB0 dX12_isSpelled_109 (by decide) ?_
          have hE : zm_isSpelled S a b c d e = 1 := by unfold zm_isSpelled; exact zlet_e e1j (zif_t c_22 (zif_t c_35 (zif_t c_43 rfl)))
          rw [← hQ]
          exact z_iret (z := 1) CX hW (by rw [hE]; exact ⟨rfl, rfl, (show 0 ≤ (1 : Int) ∧ (1 : Int) ≤ 1 from by omega)⟩) rfl dX12_isSpelled_113
        ·
          refine lv_aload_n hX0 hB0 dX12_isSpelled_46 rfl (lv_at hl 1 rfl) ?_
          refine z_get (Cn := RX12) (T := TX12) (N := 37) CX hW (v := .ref (o + 1)) zMO_0 rfl (fun w h => List.mem_cons_of_mem _ (List.mem_append_right _ h)) 0 (by decide) (List.mem_of_getElem? (i := 3) rfl) rfl rfl dX12_isSpelled_47 ?_
          refine lv_aload_n hX0 hB0 dX12_isSpelled_50 rfl (lv_at hl 1 rfl) ?_
          refine z_get (Cn := RX12) (T := TX12) (N := 37) CX hW (v := .int (zI (S 0 7))) zMO_0 rfl (fun w h => List.mem_cons_of_mem _ (List.mem_append_right _ h)) 7 (by decide) (List.mem_of_getElem? (i := 2) rfl) rfl rfl dX12_isSpelled_51 ?_
          have hr51 := hI.s7
          refine lv_iconst (v := zI 1) hX0 hB0 dX12_isSpelled_54 rfl ?_
          refine z_iadd (z := (S 0 7) + 1) CX dX12_isSpelled_55 rfl ?_
          refine z_iald (z := S 1 (((S 0 7) + 1).toNat)) CX hW zMO_1 0 rfl (by refine ⟨?_, ?_, ?_⟩ <;> omega) rfl dX12_isSpelled_56 ?_
          have hr56 := hI.r1 (((S 0 7) + 1).toNat)
          refine lv_iload_n hX0 hB0 dX12_isSpelled_57 rfl (lv_at hl 3 rfl) ?_
          refine z_icmp_ne (tgt := 112) CX dX12_isSpelled_58 (by decide) (by constructor <;> omega) (by constructor <;> omega) (fun c_58 => ?_) (fun c_58 => ?_)
          ·
            refine lv_iconst (v := zI 0) hX0 hB0 dX12_isSpelled_112 rfl ?_
            have hE : zm_isSpelled S a b c d e = 0 := by unfold zm_isSpelled; exact zlet_e e1j (zif_t c_22 (zif_t c_35 (zif_f c_43 (zif_f c_58 rfl))))
            rw [← hQ]
            exact z_iret (z := 0) CX hW (by rw [hE]; exact ⟨rfl, rfl, (show 0 ≤ (0 : Int) ∧ (0 : Int) ≤ 1 from by omega)⟩) rfl dX12_isSpelled_113
          ·
            refine lv_aload_n hX0 hB0 dX12_isSpelled_61 rfl (lv_at hl 1 rfl) ?_
            refine z_get (Cn := RX12) (T := TX12) (N := 37) CX hW (v := .ref (o + 1)) zMO_0 rfl (fun w h => List.mem_cons_of_mem _ (List.mem_append_right _ h)) 0 (by decide) (List.mem_of_getElem? (i := 3) rfl) rfl rfl dX12_isSpelled_62 ?_
            refine lv_aload_n hX0 hB0 dX12_isSpelled_65 rfl (lv_at hl 1 rfl) ?_
            refine z_get (Cn := RX12) (T := TX12) (N := 37) CX hW (v := .int (zI (S 0 7))) zMO_0 rfl (fun w h => List.mem_cons_of_mem _ (List.mem_append_right _ h)) 7 (by decide) (List.mem_of_getElem? (i := 2) rfl) rfl rfl dX12_isSpelled_66 ?_
            have hr66 := hI.s7
            refine lv_iconst (v := zI 2) hX0 hB0 dX12_isSpelled_69 rfl ?_
            refine z_iadd (z := (S 0 7) + 2) CX dX12_isSpelled_70 rfl ?_
            refine z_iald (z := S 1 (((S 0 7) + 2).toNat)) CX hW zMO_1 0 rfl (by refine ⟨?_, ?_, ?_⟩ <;> omega) rfl dX12_isSpelled_71 ?_
            have hr71 := hI.r1 (((S 0 7) + 2).toNat)
            refine lv_iload_n hX0 hB0 dX12_isSpelled_72 rfl (lv_at hl 4 rfl) ?_
            refine z_icmp_ne (tgt := 112) CX dX12_isSpelled_73 (by decide) (by constructor <;> omega) (by constructor <;> omega) (fun c_73 => ?_) (fun c_73 => ?_)
            ·
              refine lv_iconst (v := zI 0) hX0 hB0 dX12_isSpelled_112 rfl ?_
              have hE : zm_isSpelled S a b c d e = 0 := by unfold zm_isSpelled; exact zlet_e e1j (zif_t c_22 (zif_t c_35 (zif_f c_43 (zif_t c_58 (zif_f c_73 rfl)))))
              rw [← hQ]
              exact z_iret (z := 0) CX hW (by rw [hE]; exact ⟨rfl, rfl, (show 0 ≤ (0 : Int) ∧ (0 : Int) ≤ 1 from by omega)⟩) rfl dX12_isSpelled_113
            ·
              refine lv_aload_n hX0 hB0 dX12_isSpelled_76 rfl (lv_at hl 1 rfl) ?_
              refine z_get (Cn := RX12) (T := TX12) (N := 37) CX hW (v := .ref (o + 1)) zMO_0 rfl (fun w h => List.mem_cons_of_mem _ (List.mem_append_right _ h)) 0 (by decide) (List.mem_of_getElem? (i := 3) rfl) rfl rfl dX12_isSpelled_77 ?_
              refine lv_aload_n hX0 hB0 dX12_isSpelled_80 rfl (lv_at hl 1 rfl) ?_
              refine z_get (Cn := RX12) (T := TX12) (N := 37) CX hW (v := .int (zI (S 0 7))) zMO_0 rfl (fun w h => List.mem_cons_of_mem _ (List.mem_append_right _ h)) 7 (by decide) (List.mem_of_getElem? (i := 2) rfl) rfl rfl dX12_isSpelled_81 ?_
              have hr81 := hI.s7
              refine lv_iconst (v := zI 3) hX0 hB0 dX12_isSpelled_84 rfl ?_
              refine z_iadd (z := (S 0 7) + 3) CX dX12_isSpelled_85 rfl ?_
              refine z_iald (z := S 1 (((S 0 7) + 3).toNat)) CX hW zMO_1 0 rfl (by refine ⟨?_, ?_, ?_⟩ <;> omega) rfl dX12_isSpelled_86 ?_
              have hr86 := hI.r1 (((S 0 7) + 3).toNat)
              refine lv_iload hX0 hB0 dX12_isSpelled_87 (lv_at hl 5 rfl) ?_
              refine z_icmp_ne (tgt := 112) CX dX12_isSpelled_89 (by decide) (by constructor <;> omega) (by constructor <;> omega) (fun c_89 => ?_) (fun c_89 => ?_)
              ·
                refine lv_iconst (v := zI 0) hX0 hB0 dX12_isSpelled_112 rfl ?_
                have hE : zm_isSpelled S a b c d e = 0 := by unfold zm_isSpelled; exact zlet_e e1j (zif_t c_22 (zif_t c_35 (zif_f c_43 (zif_t c_58 (zif_t c_73 (zif_f c_89 rfl))))))
                rw [← hQ]
                exact z_iret (z := 0) CX hW (by rw [hE]; exact ⟨rfl, rfl, (show 0 ≤ (0 : Int) ∧ (0 : Int) ≤ 1 from by omega)⟩) rfl dX12_isSpelled_113
              ·
                refine lv_aload_n hX0 hB0 dX12_isSpelled_92 rfl (lv_at hl 1 rfl) ?_
                refine z_get (Cn := RX12) (T := TX12) (N := 37) CX hW (v := .ref (o + 1)) zMO_0 rfl (fun w h => List.mem_cons_of_mem _ (List.mem_append_right _ h)) 0 (by decide) (List.mem_of_getElem? (i := 3) rfl) rfl rfl dX12_isSpelled_93 ?_
                refine lv_aload_n hX0 hB0 dX12_isSpelled_96 rfl (lv_at hl 1 rfl) ?_
                refine z_get (Cn := RX12) (T := TX12) (N := 37) CX hW (v := .int (zI (S 0 7))) zMO_0 rfl (fun w h => List.mem_cons_of_mem _ (List.mem_append_right _ h)) 7 (by decide) (List.mem_of_getElem? (i := 2) rfl) rfl rfl dX12_isSpelled_97 ?_
                have hr97 := hI.s7
                refine lv_iconst (v := zI 4) hX0 hB0 dX12_isSpelled_100 rfl ?_
                refine z_iadd (z := (S 0 7) + 4) CX dX12_isSpelled_101 rfl ?_
                refine z_iald (z := S 1 (((S 0 7) + 4).toNat)) CX hW zMO_1 0 rfl (by refine ⟨?_, ?_, ?_⟩ <;> omega) rfl dX12_isSpelled_102 ?_
                have hr102 := hI.r1 (((S 0 7) + 4).toNat)
                refine lv_iload hX0 hB0 dX12_isSpelled_103 (lv_at hl 6 rfl) ?_
                refine z_icmp_ne (tgt := 112) CX dX12_isSpelled_105 (by decide) (by constructor <;> omega) (by constructor <;> omega) (fun c_105 => ?_) (fun c_105 => ?_)
                ·
                  refine lv_iconst (v := zI 0) hX0 hB0 dX12_isSpelled_112 rfl ?_
                  have hE : zm_isSpelled S a b c d e = 0 := by unfold zm_isSpelled; exact zlet_e e1j (zif_t c_22 (zif_t c_35 (zif_f c_43 (zif_t c_58 (zif_t c_73 (zif_t c_89 (zif_f c_105 rfl)))))))
                  rw [← hQ]
                  exact z_iret (z := 0) CX hW (by rw [hE]; exact ⟨rfl, rfl, (show 0 ≤ (0 : Int) ∧ (0 : Int) ≤ 1 from by omega)⟩) rfl dX12_isSpelled_113
                ·
                  refine lv_iconst (v := zI 1) hX0 hB0 dX12_isSpelled_108 rfl ?_
                  refine lv_goto (tgt := 113) hX0 hB0 dX12_isSpelled_109 (by decide) ?_
                  have hE : zm_isSpelled S a b c d e = 1 := by unfold zm_isSpelled; exact zlet_e e1j (zif_t c_22 (zif_t c_35 (zif_f c_43 (zif_t c_58 (zif_t c_73 (zif_t c_89 (zif_t c_105 rfl)))))))
                  rw [← hQ]
                  exact z_iret (z := 1) CX hW (by rw [hE]; exact ⟨rfl, rfl, (show 0 ≤ (1 : Int) ∧ (1 : Int) ≤ 1 from by omega)⟩) rfl dX12_isSpelled_113
      ·
        refine lv_iconst (v := zI 0) hX0 hB0 dX12_isSpelled_38 rfl ?_
        have hE : zm_isSpelled S a b c d e = 0 := by unfold zm_isSpelled; exact zlet_e e1j (zif_t c_22 (zif_f c_35 rfl))
        rw [← hQ]
        exact z_iret (z := 0) CX hW (by rw [hE]; exact ⟨rfl, rfl, (show 0 ≤ (0 : Int) ∧ (0 : Int) ≤ 1 from by omega)⟩) rfl dX12_isSpelled_39
  refine z_if_ne (tgt := 8) CX dX12_isSpelled_1 (by decide) (by constructor <;> omega) (fun c_1 => ?_) (fun c_1 => ?_)
  ·
    refine lv_iconst (v := zI 5) hX0 hB0 dX12_isSpelled_8 rfl ?_
    exact hJ1 5 ⟨(by unfold zm_isSpelled_J1; exact zif_f c_1 rfl), by omega, by omega, by omega⟩ H locs ls hW (lv_sub hl [0, 1, 2, 3, 4, 5] rfl)
  ·
    refine lv_iconst (v := zI 1) hX0 hB0 dX12_isSpelled_4 rfl ?_
    refine lv_goto (tgt := 9) hX0 hB0 dX12_isSpelled_5 (by decide) ?_
    exact hJ1 1 ⟨(by unfold zm_isSpelled_J1; exact zif_t c_1 rfl), by omega, by omega, by omega⟩ H locs ls hW (lv_sub hl [0, 1, 2, 3, 4, 5] rfl)
def zm_own (S : zS2)  : Int := zlet (zm_isSpelled S 102 105 101 108 100) (fun z11 => (if z11 = 0 then zlet (zm_isSpelled S 99 117 114 118 101) (fun z30 => (if z30 = 0 then zlet (zm_isSpelled S 120 0 0 0 0) (fun z45 => (if z45 = 0 then zlet (zm_isSpelled S 121 0 0 0 0) (fun z62 => (if z62 = 0 then 0 else 4)) else 3)) else 2)) else 1))
set_option maxRecDepth 100000 in
set_option maxHeartbeats 4000000 in
theorem zk_own (l : Launch) {D : va_G} {cI cJ cZ cP cS cM : ClassId} {L : List Nat} {sz : Nat} {f : Nat → va_E} (o : Nat) (S : zS2)  (hI : mI S)  : zMi l yX12_own wsX12_own 1 26 D (zT cI cJ cZ cP cS cM) L sz (zMO cI cJ o S f) [.ref o] (fun zv gv => zv = zm_own S ∧ gv = zMO cI cJ o S f ∧ 0 ≤ zv ∧ zv ≤ 4) := by
  refine zWalk.met (nL := 1) (ret := (some .int)) (cc := cX12_own) (by decide) rfl (Nat.le_of_ble_eq_true rfl) ?_
  intro pg en st mi ag bl mt cd ls CX hW hl
  have CX : zC pg st mi ag mt cd cX12_own 1 (some .int) RX12 wsX12_own := CX
  generalize hQ : MQ bl _ ag st 0 0 _ = Q
  have hX0 := CX.1
  have hB0 := CX.2.1
  have hl : lv_has ls 1 [(0, .ref o)] := hl
  obtain ⟨H, eH⟩ : ∃ H, H = st.heap := ⟨_, rfl⟩
  obtain ⟨locs, eL⟩ : ∃ L : List Loc, L = [] := ⟨_, rfl⟩
  have hW : zW D (zT cI cJ cZ cP cS cM) L (zQ L sz) st (zMO cI cJ o S f) st.heap H locs := by rw [eH, eL]; exact hW
  suffices hgo : W pg l en ({ frames := 1, cells := 0, slots := 0, locals := 26 } : Room) st mi ag bl mt cd H locs 0 0 Q (F0 mi 0 ls []) by rw [eH, eL] at hgo; exact hgo
  clear eH eL
  have hpb := hI.s10
  refine lv_aload_n hX0 hB0 dX12_own_0 rfl (lv_at hl 0 rfl) ?_
  refine lv_bipush (v := zI 102) hX0 hB0 dX12_own_1 (by decide) ?_
  refine lv_bipush (v := zI 105) hX0 hB0 dX12_own_3 (by decide) ?_
  refine lv_bipush (v := zI 101) hX0 hB0 dX12_own_5 (by decide) ?_
  refine lv_bipush (v := zI 108) hX0 hB0 dX12_own_7 (by decide) ?_
  refine lv_bipush (v := zI 100) hX0 hB0 dX12_own_9 (by decide) ?_
  refine z_calli hW (va_runV (C := RX12) (As := [.int (zI 102), .int (zI 105), .int (zI 101), .int (zI 108), .int (zI 100)]) (rest := []) CX.fix (zk_isSpelled l o S 102 105 101 108 100 hI (by constructor <;> omega) (by constructor <;> omega) (by constructor <;> omega) (by constructor <;> omega) (by constructor <;> omega)) (cwV 5 CX.fix.2.2.2.2 gX12_own_X12_isSpelled rfl rfl rfl (by decide +kernel) ⟨Nat.le_of_ble_eq_true rfl, Nat.le_of_ble_eq_true rfl⟩) (z_preV CX hW (r := (RX12, TX12, 37)) zMO_0 rfl) rfl rfl hl.1 rfl (lv_room (Nat.le_of_ble_eq_true rfl)) dX12_own_11 ⟨Nat.zero_le _, Nat.zero_le _⟩) (fun z11 gn H locs hok hW => ?_)
  obtain ⟨hz11, hg, hq11⟩ := hok
  rw [hg] at hW
  clear hg
  have e11 : zm_isSpelled S 102 105 101 108 100 = z11 := hz11.symm
  clear hz11
  refine z_if_eq (tgt := 19) CX dX12_own_14 (by decide) (by constructor <;> omega) (fun c_14 => ?_) (fun c_14 => ?_)
  ·
    refine lv_aload_n hX0 hB0 dX12_own_19 rfl (lv_at hl 0 rfl) ?_
    refine lv_bipush (v := zI 99) hX0 hB0 dX12_own_20 (by decide) ?_
    refine lv_bipush (v := zI 117) hX0 hB0 dX12_own_22 (by decide) ?_
    refine lv_bipush (v := zI 114) hX0 hB0 dX12_own_24 (by decide) ?_
    refine lv_bipush (v := zI 118) hX0 hB0 dX12_own_26 (by decide) ?_
    refine lv_bipush (v := zI 101) hX0 hB0 dX12_own_28 (by decide) ?_
    refine z_calli hW (va_runV (C := RX12) (As := [.int (zI 99), .int (zI 117), .int (zI 114), .int (zI 118), .int (zI 101)]) (rest := []) CX.fix (zk_isSpelled l o S 99 117 114 118 101 hI (by constructor <;> omega) (by constructor <;> omega) (by constructor <;> omega) (by constructor <;> omega) (by constructor <;> omega)) (cwV 5 CX.fix.2.2.2.2 gX12_own_X12_isSpelled rfl rfl rfl (by decide +kernel) ⟨Nat.le_of_ble_eq_true rfl, Nat.le_of_ble_eq_true rfl⟩) (z_preV CX hW (r := (RX12, TX12, 37)) zMO_0 rfl) rfl rfl hl.1 rfl (lv_room (Nat.le_of_ble_eq_true rfl)) dX12_own_30 ⟨Nat.zero_le _, Nat.zero_le _⟩) (fun z30 gn H locs hok hW => ?_)
    obtain ⟨hz30, hg, hq30⟩ := hok
    rw [hg] at hW
    clear hg
    have e30 : zm_isSpelled S 99 117 114 118 101 = z30 := hz30.symm
    clear hz30
    refine z_if_eq (tgt := 38) CX dX12_own_33 (by decide) (by constructor <;> omega) (fun c_33 => ?_) (fun c_33 => ?_)
    ·
      refine lv_aload_n hX0 hB0 dX12_own_38 rfl (lv_at hl 0 rfl) ?_
      refine lv_bipush (v := zI 120) hX0 hB0 dX12_own_39 (by decide) ?_
      refine lv_iconst (v := zI 0) hX0 hB0 dX12_own_41 rfl ?_
      refine lv_iconst (v := zI 0) hX0 hB0 dX12_own_42 rfl ?_
      refine lv_iconst (v := zI 0) hX0 hB0 dX12_own_43 rfl ?_
      refine lv_iconst (v := zI 0) hX0 hB0 dX12_own_44 rfl ?_
      refine z_calli hW (va_runV (C := RX12) (As := [.int (zI 120), .int (zI 0), .int (zI 0), .int (zI 0), .int (zI 0)]) (rest := []) CX.fix (zk_isSpelled l o S 120 0 0 0 0 hI (by constructor <;> omega) (by constructor <;> omega) (by constructor <;> omega) (by constructor <;> omega) (by constructor <;> omega)) (cwV 5 CX.fix.2.2.2.2 gX12_own_X12_isSpelled rfl rfl rfl (by decide +kernel) ⟨Nat.le_of_ble_eq_true rfl, Nat.le_of_ble_eq_true rfl⟩) (z_preV CX hW (r := (RX12, TX12, 37)) zMO_0 rfl) rfl rfl hl.1 rfl (lv_room (Nat.le_of_ble_eq_true rfl)) dX12_own_45 ⟨Nat.zero_le _, Nat.zero_le _⟩) (fun z45 gn H locs hok hW => ?_)
      obtain ⟨hz45, hg, hq45⟩ := hok
      rw [hg] at hW
      clear hg
      have e45 : zm_isSpelled S 120 0 0 0 0 = z45 := hz45.symm
      clear hz45
      refine z_if_eq (tgt := 55) CX dX12_own_48 (by decide) (by constructor <;> omega) (fun c_48 => ?_) (fun c_48 => ?_)
      ·
        refine lv_aload_n hX0 hB0 dX12_own_55 rfl (lv_at hl 0 rfl) ?_
        refine lv_bipush (v := zI 121) hX0 hB0 dX12_own_56 (by decide) ?_
        refine lv_iconst (v := zI 0) hX0 hB0 dX12_own_58 rfl ?_
        refine lv_iconst (v := zI 0) hX0 hB0 dX12_own_59 rfl ?_
        refine lv_iconst (v := zI 0) hX0 hB0 dX12_own_60 rfl ?_
        refine lv_iconst (v := zI 0) hX0 hB0 dX12_own_61 rfl ?_
        refine z_calli hW (va_runV (C := RX12) (As := [.int (zI 121), .int (zI 0), .int (zI 0), .int (zI 0), .int (zI 0)]) (rest := []) CX.fix (zk_isSpelled l o S 121 0 0 0 0 hI (by constructor <;> omega) (by constructor <;> omega) (by constructor <;> omega) (by constructor <;> omega) (by constructor <;> omega)) (cwV 5 CX.fix.2.2.2.2 gX12_own_X12_isSpelled rfl rfl rfl (by decide +kernel) ⟨Nat.le_of_ble_eq_true rfl, Nat.le_of_ble_eq_true rfl⟩) (z_preV CX hW (r := (RX12, TX12, 37)) zMO_0 rfl) rfl rfl hl.1 rfl (lv_room (Nat.le_of_ble_eq_true rfl)) dX12_own_62 ⟨Nat.zero_le _, Nat.zero_le _⟩) (fun z62 gn H locs hok hW => ?_)
        obtain ⟨hz62, hg, hq62⟩ := hok
        rw [hg] at hW
        clear hg
        have e62 : zm_isSpelled S 121 0 0 0 0 = z62 := hz62.symm
        clear hz62
        refine z_if_eq (tgt := 72) CX dX12_own_65 (by decide) (by constructor <;> omega) (fun c_65 => ?_) (fun c_65 => ?_)
        ·
          refine lv_iconst (v := zI 0) hX0 hB0 dX12_own_72 rfl ?_
          have hE : zm_own S = 0 := by unfold zm_own; exact zlet_e e11 (zif_t c_14 (zlet_e e30 (zif_t c_33 (zlet_e e45 (zif_t c_48 (zlet_e e62 (zif_t c_65 rfl)))))))
          rw [← hQ]
          exact z_iret (z := 0) CX hW (by rw [hE]; exact ⟨rfl, rfl, (show 0 ≤ (0 : Int) ∧ (0 : Int) ≤ 4 from by omega)⟩) rfl dX12_own_73
        ·
          refine lv_iconst (v := zI 4) hX0 hB0 dX12_own_68 rfl ?_
          refine lv_goto (tgt := 73) hX0 hB0 dX12_own_69 (by decide) ?_
          have hE : zm_own S = 4 := by unfold zm_own; exact zlet_e e11 (zif_t c_14 (zlet_e e30 (zif_t c_33 (zlet_e e45 (zif_t c_48 (zlet_e e62 (zif_f c_65 rfl)))))))
          rw [← hQ]
          exact z_iret (z := 4) CX hW (by rw [hE]; exact ⟨rfl, rfl, (show 0 ≤ (4 : Int) ∧ (4 : Int) ≤ 4 from by omega)⟩) rfl dX12_own_73
      ·
        refine lv_iconst (v := zI 3) hX0 hB0 dX12_own_51 rfl ?_
        refine lv_goto (tgt := 73) hX0 hB0 dX12_own_52 (by decide) ?_
        have hE : zm_own S = 3 := by unfold zm_own; exact zlet_e e11 (zif_t c_14 (zlet_e e30 (zif_t c_33 (zlet_e e45 (zif_f c_48 rfl)))))
        rw [← hQ]
        exact z_iret (z := 3) CX hW (by rw [hE]; exact ⟨rfl, rfl, (show 0 ≤ (3 : Int) ∧ (3 : Int) ≤ 4 from by omega)⟩) rfl dX12_own_73
    ·
      refine lv_iconst (v := zI 2) hX0 hB0 dX12_own_36 rfl ?_
      have hE : zm_own S = 2 := by unfold zm_own; exact zlet_e e11 (zif_t c_14 (zlet_e e30 (zif_f c_33 rfl)))
      rw [← hQ]
      exact z_iret (z := 2) CX hW (by rw [hE]; exact ⟨rfl, rfl, (show 0 ≤ (2 : Int) ∧ (2 : Int) ≤ 4 from by omega)⟩) rfl dX12_own_37
  ·
    refine lv_iconst (v := zI 1) hX0 hB0 dX12_own_17 rfl ?_
    have hE : zm_own S = 1 := by unfold zm_own; exact zlet_e e11 (zif_f c_14 rfl)
    rw [← hQ]
    exact z_iret (z := 1) CX hW (by rw [hE]; exact ⟨rfl, rfl, (show 0 ≤ (1 : Int) ∧ (1 : Int) ≤ 4 from by omega)⟩) rfl dX12_own_18
def zm_comes (S : zS2)  : Int × zS2 := zlet (zm_isWordHere S) (fun q1 => (fun (z1 : Int) (S1 : zS2) => (if z1 = 0 then (-1, S1) else zlet (zm_word S1) (fun S15 => zlet (zm_own S15) (fun z19 => zlet (za S15 0 6 (S1 0 6)) (fun S25 => (z19, S25)))))) q1.1 q1.2)
set_option maxRecDepth 100000 in
set_option maxHeartbeats 4000000 in
theorem zk_comes (l : Launch) {D : va_G} {cI cJ cZ cP cS cM : ClassId} {L : List Nat} {sz : Nat} {f : Nat → va_E} (o : Nat) (S : zS2)  (hI : mI S)  : zMi l yX12_comes wsX12_comes 4 82 D (zT cI cJ cZ cP cS cM) L sz (zMO cI cJ o S f) [.ref o] (fun zv gv => zv = (zm_comes S).1 ∧ gv = zMO cI cJ o (zm_comes S).2 f ∧ mI (zm_comes S).2 ∧ (∀ kk ii : Nat, ¬ (kk = 0 ∧ ii = 6) ∧ ¬ (kk = 0 ∧ ii = 7) ∧ ¬ (kk = 0 ∧ ii = 8) ∧ ¬ (kk = 0 ∧ ii = 9) → (zm_comes S).2 kk ii = S kk ii) ∧ (S 0 6 ≤ ((zm_comes S).2) 0 6 ∧ (S 0 6 ≤ S 0 5 → ((zm_comes S).2) 0 6 ≤ S 0 5)) ∧ -1 ≤ zv ∧ zv ≤ 4 ∧ (S 0 8 ≠ 0 → ((zm_comes S).2) 0 8 ≠ 0) ∧ (zv ≠ -1 → ((zm_comes S).2) 0 6 < S 0 5)) := by
  refine zWalk.met (nL := 3) (ret := (some .int)) (cc := cX12_comes) (by decide) rfl (Nat.le_of_ble_eq_true rfl) ?_
  intro pg en st mi ag bl mt cd ls CX hW hl
  have CX : zC pg st mi ag mt cd cX12_comes 3 (some .int) RX12 wsX12_comes := CX
  generalize hQ : MQ bl _ ag st 0 0 _ = Q
  have hX0 := CX.1
  have hB0 := CX.2.1
  have hl : lv_has ls 3 [(0, .ref o)] := hl
  obtain ⟨H, eH⟩ : ∃ H, H = st.heap := ⟨_, rfl⟩
  obtain ⟨locs, eL⟩ : ∃ L : List Loc, L = [] := ⟨_, rfl⟩
  have hW : zW D (zT cI cJ cZ cP cS cM) L (zQ L sz) st (zMO cI cJ o S f) st.heap H locs := by rw [eH, eL]; exact hW
  suffices hgo : W pg l en ({ frames := 4, cells := 0, slots := 0, locals := 82 } : Room) st mi ag bl mt cd H locs 0 0 Q (F0 mi 0 ls []) by rw [eH, eL] at hgo; exact hgo
  clear eH eL
  have hpb := hI.s10
  have hbs := hI.s5
  have hba := hI.s6
  have hbb := hI.s7
  refine lv_aload_n hX0 hB0 dX12_comes_0 rfl (lv_at hl 0 rfl) ?_
  refine z_calli hW (va_runV (C := RX12) (As := []) (rest := []) CX.fix (zk_isWordHere l o S  hI ) (cwV 0 CX.fix.2.2.2.2 gX12_comes_X12_isWordHere rfl rfl rfl (by decide +kernel) ⟨Nat.le_of_ble_eq_true rfl, Nat.le_of_ble_eq_true rfl⟩) (z_preV CX hW (r := (RX12, TX12, 37)) zMO_0 rfl) rfl rfl hl.1 rfl (lv_room (Nat.le_of_ble_eq_true rfl)) dX12_comes_1 ⟨Nat.zero_le _, Nat.zero_le _⟩) (fun z1 gn H locs hok hW => ?_)
  obtain ⟨hz1, hg, hI1, hf1, hq1⟩ := hok
  obtain ⟨S1, hS1⟩ : ∃ q, q = (zm_isWordHere S).2 := ⟨_, rfl⟩
  rw [← hS1] at hg hI1 hf1
  have t1_5 : S1 0 5 = S 0 5 := hf1 0 5 (by omega)
  have t1_7 : S1 0 7 = S 0 7 := hf1 0 7 (by omega)
  have t1_8 : S1 0 8 = S 0 8 := hf1 0 8 (by omega)
  skip
  try rw [← hS1] at hq1
  rw [hg] at hW
  clear hg
  have e1 : zm_isWordHere S = (z1, S1) := Prod.ext hz1.symm hS1.symm
  clear hz1 hS1
  refine z_if_ne (tgt := 9) CX dX12_comes_4 (by decide) (by constructor <;> omega) (fun c_4 => ?_) (fun c_4 => ?_)
  ·
    refine lv_aload_n hX0 hB0 dX12_comes_9 rfl (lv_at hl 0 rfl) ?_
    refine z_get (Cn := RX12) (T := TX12) (N := 37) CX hW (v := .int (zI (S1 0 6))) zMO_0 rfl (fun w h => List.mem_cons_of_mem _ (List.mem_append_right _ h)) 6 (by decide) (List.mem_of_getElem? (i := 1) rfl) rfl rfl dX12_comes_10 ?_
    have hr10 := hI1.s6
    refine lv_istore_n (lv' := [(1, .int (zI (S1 0 6))), (0, .ref o)]) hX0 hB0 dX12_comes_13 rfl hl (by decide) rfl (fun ls hl => ?_)
    refine lv_aload_n hX0 hB0 dX12_comes_14 rfl (lv_at hl 1 rfl) ?_
    refine z_callv hW (va_runV (C := RX12) (As := []) (rest := []) CX.fix (zk_word l o S1  hI1 ) (cwV 0 CX.fix.2.2.2.2 gX12_comes_X12_word rfl rfl rfl (by decide +kernel) ⟨Nat.le_of_ble_eq_true rfl, Nat.le_of_ble_eq_true rfl⟩) (z_preV CX hW (r := (RX12, TX12, 37)) zMO_0 rfl) rfl rfl hl.1 rfl (lv_room (Nat.le_of_ble_eq_true rfl)) dX12_comes_15 ⟨Nat.zero_le _, Nat.zero_le _⟩) (fun gn H locs hok hW => ?_)
    obtain ⟨hg, hI15, hf15, hq15⟩ := hok
    obtain ⟨S15, e15⟩ : ∃ q, zm_word S1 = q := ⟨_, rfl⟩
    rw [e15] at hg hI15 hf15
    have t15_5 : S15 0 5 = S1 0 5 := hf15 0 5 (by omega)
    skip
    try rw [e15] at hq15
    rw [hg] at hW
    clear hg
    refine lv_aload_n hX0 hB0 dX12_comes_18 rfl (lv_at hl 1 rfl) ?_
    refine z_calli hW (va_runV (C := RX12) (As := []) (rest := []) CX.fix (zk_own l o S15  hI15 ) (cwV 0 CX.fix.2.2.2.2 gX12_comes_X12_own rfl rfl rfl (by decide +kernel) ⟨Nat.le_of_ble_eq_true rfl, Nat.le_of_ble_eq_true rfl⟩) (z_preV CX hW (r := (RX12, TX12, 37)) zMO_0 rfl) rfl rfl hl.1 rfl (lv_room (Nat.le_of_ble_eq_true rfl)) dX12_comes_19 ⟨Nat.zero_le _, Nat.zero_le _⟩) (fun z19 gn H locs hok hW => ?_)
    obtain ⟨hz19, hg, hq19⟩ := hok
    rw [hg] at hW
    clear hg
    have e19 : zm_own S15 = z19 := hz19.symm
    clear hz19
    refine lv_istore_n (lv' := [(2, .int (zI z19)), (1, .int (zI (S1 0 6))), (0, .ref o)]) hX0 hB0 dX12_comes_22 rfl hl (by decide) rfl (fun ls hl => ?_)
    refine lv_aload_n hX0 hB0 dX12_comes_23 rfl (lv_at hl 2 rfl) ?_
    refine lv_iload_n hX0 hB0 dX12_comes_24 rfl (lv_at hl 1 rfl) ?_
    obtain ⟨S25, e25⟩ : ∃ q, za S15 0 6 (S1 0 6) = q := ⟨_, rfl⟩
    refine z_put (Cn := RX12) (T := TX12) (N := 37) CX hW (v := .int (zI (S1 0 6))) zMO_0 rfl (fun w h => List.mem_cons_of_mem _ (List.mem_append_right _ h)) tyX12 tyX12_ok nmX12 6 (by decide) (List.mem_of_getElem? (i := 1) rfl) rfl rfl rfl rfl (Nat.le_of_ble_eq_true rfl) (g := zMO cI cJ o S25 f) (zMO_s6.trans (by rw [e25])) dX12_comes_25 (fun H locs hW => ?_)
    have hI25 : mI S25 := e25 ▸ hI15.v6 (by constructor <;> omega)
    have t25_5 : S25 0 5 = S15 0 5 := by rw [← e25]; exact za_ne (by omega)
    have t25_6 : S25 0 6 = S1 0 6 := by rw [← e25]; exact za_same
    have t25_7 : S25 0 7 = S15 0 7 := by rw [← e25]; exact za_ne (by omega)
    have t25_8 : S25 0 8 = S15 0 8 := by rw [← e25]; exact za_ne (by omega)
    refine lv_iload_n hX0 hB0 dX12_comes_28 rfl (lv_at hl 0 rfl) ?_
    have hE : zm_comes S = (z19, S25) := by unfold zm_comes; exact zlet_e e1 (zif_f c_4 (zlet_e e15 (zlet_e e19 (zlet_e e25 rfl))))
    have hFr : ∀ kk ii : Nat, ¬ (kk = 0 ∧ ii = 6) ∧ ¬ (kk = 0 ∧ ii = 7) ∧ ¬ (kk = 0 ∧ ii = 8) ∧ ¬ (kk = 0 ∧ ii = 9) → S25 kk ii = S kk ii := fun kk ii hk => (((show S25 kk ii = S15 kk ii from by rw [← e25]; exact za_ne (by omega))).trans (hf15 kk ii (by omega))).trans (hf1 kk ii (by omega))
    rw [← hQ]
    exact z_iret (z := z19) CX hW (by rw [hE]; exact ⟨rfl, rfl, hI25, hFr, (show (S 0 6 ≤ S25 0 6 ∧ (S 0 6 ≤ S 0 5 → S25 0 6 ≤ S 0 5)) ∧ -1 ≤ z19 ∧ z19 ≤ 4 ∧ (S 0 8 ≠ 0 → S25 0 8 ≠ 0) ∧ (z19 ≠ -1 → S25 0 6 < S 0 5) from by omega)⟩) rfl dX12_comes_29
  ·
    refine lv_iconst (v := zI (-1)) hX0 hB0 dX12_comes_7 rfl ?_
    have hE : zm_comes S = (-1, S1) := by unfold zm_comes; exact zlet_e e1 (zif_t c_4 rfl)
    have hFr : ∀ kk ii : Nat, ¬ (kk = 0 ∧ ii = 6) ∧ ¬ (kk = 0 ∧ ii = 7) ∧ ¬ (kk = 0 ∧ ii = 8) ∧ ¬ (kk = 0 ∧ ii = 9) → S1 kk ii = S kk ii := fun kk ii hk => (hf1 kk ii (by omega))
    rw [← hQ]
    exact z_iret (z := -1) CX hW (by rw [hE]; exact ⟨rfl, rfl, hI1, hFr, (show (S 0 6 ≤ S1 0 6 ∧ (S 0 6 ≤ S 0 5 → S1 0 6 ≤ S 0 5)) ∧ -1 ≤ (-1 : Int) ∧ (-1 : Int) ≤ 4 ∧ (S 0 8 ≠ 0 → S1 0 8 ≠ 0) ∧ ((-1 : Int) ≠ -1 → S1 0 6 < S 0 5) from by omega)⟩) rfl dX12_comes_8
def zm_name_J8 (S1 : zS2) (z5 : Int) : zS2 := (if z5 = 0 then S1 else zlet (zm_own S1) (fun z12 => (if z12 = 0 then (if (S1 0 6) - (S1 0 7) ≤ 6 then S1 else zlet (zm_faults S1 1 (S1 0 7)) (fun S38 => S38)) else zlet (zm_faults S1 1 (S1 0 7)) (fun S38 => S38))))
def zm_name_W50 (S8j : zS2) : Nat → Int → Int → Int × Int
  | 0, k50, v50 => (k50, v50)
  | fu50 + 1, k50, v50 => (if k50 < S8j 0 7 then (k50, v50) else zlet (zm_goesWell S8j) (fun z59 => (if z59 = 0 then (k50, v50) else zm_name_W50 S8j fu50 (k50 + (-1)) (((32 * v50) + (S8j 1 k50.toNat)) - 96))))
def zm_name (S : zS2)  : Int × zS2 := zlet (zm_word S) (fun S1 => zlet (zm_goesWell S1) (fun z5 => zlet (zm_name_J8 S1 z5) (fun S8j => zlet (zm_name_W50 S8j ((1001 : Nat)) ((S8j 0 6) - 1) 0) (fun q50 => (fun (k50 : Int) (v50 : Int) => zlet (zm_goesWell S8j) (fun z87 => (if z87 = 0 then (0, S8j) else (v50, S8j)))) q50.1 q50.2))))
set_option maxRecDepth 100000 in
set_option maxHeartbeats 4000000 in
theorem zk_name (l : Launch) {D : va_G} {cI cJ cZ cP cS cM : ClassId} {L : List Nat} {sz : Nat} {f : Nat → va_E} (o : Nat) (S : zS2)  (hI : mI S)  : zMi l yX12_name wsX12_name 4 82 D (zT cI cJ cZ cP cS cM) L sz (zMO cI cJ o S f) [.ref o] (fun zv gv => zv = (zm_name S).1 ∧ gv = zMO cI cJ o (zm_name S).2 f ∧ mI (zm_name S).2 ∧ (∀ kk ii : Nat, ¬ (kk = 0 ∧ ii = 6) ∧ ¬ (kk = 0 ∧ ii = 7) ∧ ¬ (kk = 0 ∧ ii = 8) ∧ ¬ (kk = 0 ∧ ii = 9) → (zm_name S).2 kk ii = S kk ii) ∧ (S 0 6 ≤ ((zm_name S).2) 0 6 ∧ (S 0 6 ≤ S 0 5 → ((zm_name S).2) 0 6 ≤ S 0 5)) ∧ 0 ≤ zv ∧ zv ≤ 1073741823 ∧ (S 0 8 ≠ 0 → ((zm_name S).2) 0 8 ≠ 0)) := by
  refine zWalk.met (nL := 3) (ret := (some .int)) (cc := cX12_name) (by decide) rfl (Nat.le_of_ble_eq_true rfl) ?_
  intro pg en st mi ag bl mt cd ls CX hW hl
  have CX : zC pg st mi ag mt cd cX12_name 3 (some .int) RX12 wsX12_name := CX
  generalize hQ : MQ bl _ ag st 0 0 _ = Q
  have hX0 := CX.1
  have hB0 := CX.2.1
  have hl : lv_has ls 3 [(0, .ref o)] := hl
  obtain ⟨H, eH⟩ : ∃ H, H = st.heap := ⟨_, rfl⟩
  obtain ⟨locs, eL⟩ : ∃ L : List Loc, L = [] := ⟨_, rfl⟩
  have hW : zW D (zT cI cJ cZ cP cS cM) L (zQ L sz) st (zMO cI cJ o S f) st.heap H locs := by rw [eH, eL]; exact hW
  suffices hgo : W pg l en ({ frames := 4, cells := 0, slots := 0, locals := 82 } : Room) st mi ag bl mt cd H locs 0 0 Q (F0 mi 0 ls []) by rw [eH, eL] at hgo; exact hgo
  clear eH eL
  have hpb := hI.s10
  have hbs := hI.s5
  have hba := hI.s6
  have hbb := hI.s7
  refine lv_aload_n hX0 hB0 dX12_name_0 rfl (lv_at hl 0 rfl) ?_
  refine z_callv hW (va_runV (C := RX12) (As := []) (rest := []) CX.fix (zk_word l o S  hI ) (cwV 0 CX.fix.2.2.2.2 gX12_name_X12_word rfl rfl rfl (by decide +kernel) ⟨Nat.le_of_ble_eq_true rfl, Nat.le_of_ble_eq_true rfl⟩) (z_preV CX hW (r := (RX12, TX12, 37)) zMO_0 rfl) rfl rfl hl.1 rfl (lv_room (Nat.le_of_ble_eq_true rfl)) dX12_name_1 ⟨Nat.zero_le _, Nat.zero_le _⟩) (fun gn H locs hok hW => ?_)
  obtain ⟨hg, hI1, hf1, hq1⟩ := hok
  obtain ⟨S1, e1⟩ : ∃ q, zm_word S = q := ⟨_, rfl⟩
  rw [e1] at hg hI1 hf1
  have t1_5 : S1 0 5 = S 0 5 := hf1 0 5 (by omega)
  skip
  try rw [e1] at hq1
  rw [hg] at hW
  clear hg
  obtain ⟨hq1a, hq1b, hq1c, hq1d⟩ := hq1
  refine lv_aload_n hX0 hB0 dX12_name_4 rfl (lv_at hl 0 rfl) ?_
  refine z_calli hW (va_runV (C := RX12) (As := []) (rest := []) CX.fix (zk_goesWell l o S1  hI1 ) (cwV 0 CX.fix.2.2.2.2 gX12_name_X12_goesWell rfl rfl rfl (by decide +kernel) ⟨Nat.le_of_ble_eq_true rfl, Nat.le_of_ble_eq_true rfl⟩) (z_preV CX hW (r := (RX12, TX12, 37)) zMO_0 rfl) rfl rfl hl.1 rfl (lv_room (Nat.le_of_ble_eq_true rfl)) dX12_name_5 ⟨Nat.zero_le _, Nat.zero_le _⟩) (fun z5 gn H locs hok hW => ?_)
  obtain ⟨hz5, hg, hq5⟩ := hok
  rw [hg] at hW
  clear hg
  have e5 : zm_goesWell S1 = z5 := hz5.symm
  clear hz5
  have hJ8 : ∀ (S8j : zS2), (zm_name_J8 S1 z5 = S8j ∧ mI S8j ∧ (∀ kk ii : Nat, ¬ (kk = 0 ∧ ii = 8) ∧ ¬ (kk = 0 ∧ ii = 9) → S8j kk ii = S1 kk ii) ∧ ((S8j 0 8 = 0 → S1 0 8 = 0 ∧ S1 0 6 - S1 0 7 ≤ 6) ∧ (S1 0 8 ≠ 0 → S8j 0 8 ≠ 0))) → ∀ (H : Heap) (locs : List Loc) (ls : Array Slot), zW D (zT cI cJ cZ cP cS cM) L (zQ L sz) st (zMO cI cJ o S8j f) st.heap H locs → lv_has ls 3 [(0, .ref o)] → W pg l en ({ frames := 4, cells := 0, slots := 0, locals := 82 } : Room) st mi ag bl mt cd H locs 0 0 Q (F0 mi 41 ls []) := by
    intro S8j hinv H locs ls hW hl
    obtain ⟨e8j, hI8j, hf8j, hv8j⟩ := hinv
    have hp8j := hI8j.s10
    have t8j_5 : S8j 0 5 = S1 0 5 := hf8j 0 5 (by omega)
    have t8j_6 : S8j 0 6 = S1 0 6 := hf8j 0 6 (by omega)
    have t8j_7 : S8j 0 7 = S1 0 7 := hf8j 0 7 (by omega)
    refine lv_iconst (v := zI 0) hX0 hB0 dX12_name_41 rfl ?_
    refine lv_istore_n (lv' := [(1, .int (zI 0)), (0, .ref o)]) hX0 hB0 dX12_name_42 rfl hl (by decide) rfl (fun ls hl => ?_)
    refine lv_aload_n hX0 hB0 dX12_name_43 rfl (lv_at hl 1 rfl) ?_
    refine z_get (Cn := RX12) (T := TX12) (N := 37) CX hW (v := .int (zI (S8j 0 6))) zMO_0 rfl (fun w h => List.mem_cons_of_mem _ (List.mem_append_right _ h)) 6 (by decide) (List.mem_of_getElem? (i := 1) rfl) rfl rfl dX12_name_44 ?_
    have hr44 := hI8j.s6
    refine lv_iconst (v := zI 1) hX0 hB0 dX12_name_47 rfl ?_
    refine z_isub (z := (S8j 0 6) - 1) CX dX12_name_48 rfl ?_
    refine lv_istore_n (lv' := [(2, .int (zI ((S8j 0 6) - 1))), (1, .int (zI 0)), (0, .ref o)]) hX0 hB0 dX12_name_49 rfl hl (by decide) rfl (fun ls hl => ?_)
    have hXt50 : ∀ (k50 : Int) (v50 : Int), (zm_name_W50 S8j ((1001 : Nat)) ((S8j 0 6) - 1) 0 = (k50, v50) ∧ -2 ≤ k50 ∧ k50 ≤ 1000 ∧ (S8j 0 8 = 0 → 0 ≤ v50 ∧ v50 ≤ 1073741823)) → ∀ (H : Heap) (locs : List Loc) (ls : Array Slot), zW D (zT cI cJ cZ cP cS cM) L (zQ L sz) st (zMO cI cJ o S8j f) st.heap H locs → lv_has ls 3 [(2, .int (zI k50)), (1, .int (zI v50)), (0, .ref o)] → W pg l en ({ frames := 4, cells := 0, slots := 0, locals := 82 } : Room) st mi ag bl mt cd H locs 0 0 Q (F0 mi 86 ls []) := by
      intro k50 v50 hinv H locs ls hW hl
      obtain ⟨e50, hak50, hbk50, hv50⟩ := hinv
      refine lv_aload_n hX0 hB0 dX12_name_86 rfl (lv_at hl 2 rfl) ?_
      refine z_calli hW (va_runV (C := RX12) (As := []) (rest := []) CX.fix (zk_goesWell l o S8j  hI8j ) (cwV 0 CX.fix.2.2.2.2 gX12_name_X12_goesWell rfl rfl rfl (by decide +kernel) ⟨Nat.le_of_ble_eq_true rfl, Nat.le_of_ble_eq_true rfl⟩) (z_preV CX hW (r := (RX12, TX12, 37)) zMO_0 rfl) rfl rfl hl.1 rfl (lv_room (Nat.le_of_ble_eq_true rfl)) dX12_name_87 ⟨Nat.zero_le _, Nat.zero_le _⟩) (fun z87 gn H locs hok hW => ?_)
      obtain ⟨hz87, hg, hq87⟩ := hok
      rw [hg] at hW
      clear hg
      have e87 : zm_goesWell S8j = z87 := hz87.symm
      clear hz87
      refine z_if_eq (tgt := 97) CX dX12_name_90 (by decide) (by constructor <;> omega) (fun c_90 => ?_) (fun c_90 => ?_)
      ·
        refine lv_iconst (v := zI 0) hX0 hB0 dX12_name_97 rfl ?_
        have hE : zm_name S = (0, S8j) := by unfold zm_name; exact zlet_e e1 (zlet_e e5 (zlet_e e8j (zlet_e e50 (zlet_e e87 (zif_t c_90 rfl)))))
        have hFr : ∀ kk ii : Nat, ¬ (kk = 0 ∧ ii = 6) ∧ ¬ (kk = 0 ∧ ii = 7) ∧ ¬ (kk = 0 ∧ ii = 8) ∧ ¬ (kk = 0 ∧ ii = 9) → S8j kk ii = S kk ii := fun kk ii hk => ((hf8j kk ii (by omega))).trans (hf1 kk ii (by omega))
        rw [← hQ]
        exact z_iret (z := 0) CX hW (by rw [hE]; exact ⟨rfl, rfl, hI8j, hFr, (show (S 0 6 ≤ S8j 0 6 ∧ (S 0 6 ≤ S 0 5 → S8j 0 6 ≤ S 0 5)) ∧ 0 ≤ (0 : Int) ∧ (0 : Int) ≤ 1073741823 ∧ (S 0 8 ≠ 0 → S8j 0 8 ≠ 0) from by omega)⟩) rfl dX12_name_98
      ·
        refine lv_iload_n hX0 hB0 dX12_name_93 rfl (lv_at hl 1 rfl) ?_
        refine lv_goto (tgt := 98) hX0 hB0 dX12_name_94 (by decide) ?_
        have hE : zm_name S = (v50, S8j) := by unfold zm_name; exact zlet_e e1 (zlet_e e5 (zlet_e e8j (zlet_e e50 (zlet_e e87 (zif_f c_90 rfl)))))
        have hFr : ∀ kk ii : Nat, ¬ (kk = 0 ∧ ii = 6) ∧ ¬ (kk = 0 ∧ ii = 7) ∧ ¬ (kk = 0 ∧ ii = 8) ∧ ¬ (kk = 0 ∧ ii = 9) → S8j kk ii = S kk ii := fun kk ii hk => ((hf8j kk ii (by omega))).trans (hf1 kk ii (by omega))
        rw [← hQ]
        exact z_iret (z := v50) CX hW (by rw [hE]; exact ⟨rfl, rfl, hI8j, hFr, (show (S 0 6 ≤ S8j 0 6 ∧ (S 0 6 ≤ S 0 5 → S8j 0 6 ≤ S 0 5)) ∧ 0 ≤ v50 ∧ v50 ≤ 1073741823 ∧ (S 0 8 ≠ 0 → S8j 0 8 ≠ 0) from by omega)⟩) rfl dX12_name_98
    have hL50 : ∀ (fu : Nat) (k50 : Int) (v50 : Int), (zm_name_W50 S8j ((1001 : Nat)) ((S8j 0 6) - 1) 0 = zm_name_W50 S8j fu k50 v50 ∧ -2 ≤ k50 ∧ k50 ≤ 1000 ∧ (k50 ≤ S8j 0 6 - 1 ∧ (S8j 0 8 = 0 → S8j 0 7 - 1 ≤ k50 ∧ 0 ≤ v50 ∧ v50 < 32 ^ (S8j 0 6 - 1 - k50).toNat))) → (k50 + 1).toNat < fu → ∀ (H : Heap) (locs : List Loc) (ls : Array Slot), zW D (zT cI cJ cZ cP cS cM) L (zQ L sz) st (zMO cI cJ o S8j f) st.heap H locs → lv_has ls 3 [(2, .int (zI k50)), (1, .int (zI v50)), (0, .ref o)] → W pg l en ({ frames := 4, cells := 0, slots := 0, locals := 82 } : Room) st mi ag bl mt cd H locs 0 0 Q (F0 mi 50 ls []) := by
      intro fu
      induction fu with
      | zero => intro k50 v50 _ hfu; exact absurd hfu (Nat.not_lt_zero _)
      | succ fu ih50 =>
        intro k50 v50 hinv hfu50 H locs ls hW hl
        obtain ⟨hz50, hak50, hbk50, hv50⟩ := hinv
        have hb6 := hI8j.s6
        have hb7 := hI8j.s7
        refine lv_iload_n hX0 hB0 dX12_name_50 rfl (lv_at hl 0 rfl) ?_
        refine lv_aload_n hX0 hB0 dX12_name_51 rfl (lv_at hl 2 rfl) ?_
        refine z_get (Cn := RX12) (T := TX12) (N := 37) CX hW (v := .int (zI (S8j 0 7))) zMO_0 rfl (fun w h => List.mem_cons_of_mem _ (List.mem_append_right _ h)) 7 (by decide) (List.mem_of_getElem? (i := 2) rfl) rfl rfl dX12_name_52 ?_
        have hr52 := hI8j.s7
        refine z_icmp_lt (tgt := 86) CX dX12_name_55 (by decide) (by have := hI8j.s7; omega) (by constructor <;> omega) (fun c_55 => ?_) (fun c_55 => ?_)
        ·
          exact hXt50 k50 v50 ⟨hz50.trans (by rw [zm_name_W50]; exact zif_t c_55 rfl), by omega, by omega, fun hW0 => (by have hv := hv50.2 hW0; first | (exfalso; omega) | (have h6 := zpow_6 (n := (S8j 0 6 - 1 - k50).toNat) (by omega); omega))⟩ H locs ls hW (lv_sub hl [0, 1, 2] rfl)
        ·
          have d_55 : ¬ k50 < S8j 0 7 := by omega
          refine lv_aload_n hX0 hB0 dX12_name_58 rfl (lv_at hl 2 rfl) ?_
          refine z_calli hW (va_runV (C := RX12) (As := []) (rest := []) CX.fix (zk_goesWell l o S8j  hI8j ) (cwV 0 CX.fix.2.2.2.2 gX12_name_X12_goesWell rfl rfl rfl (by decide +kernel) ⟨Nat.le_of_ble_eq_true rfl, Nat.le_of_ble_eq_true rfl⟩) (z_preV CX hW (r := (RX12, TX12, 37)) zMO_0 rfl) rfl rfl hl.1 rfl (lv_room (Nat.le_of_ble_eq_true rfl)) dX12_name_59 ⟨Nat.zero_le _, Nat.zero_le _⟩) (fun z59 gn H locs hok hW => ?_)
          obtain ⟨hz59, hg, hq59⟩ := hok
          rw [hg] at hW
          clear hg
          have e59 : zm_goesWell S8j = z59 := hz59.symm
          clear hz59
          refine z_if_eq (tgt := 86) CX dX12_name_62 (by decide) (by constructor <;> omega) (fun c_62 => ?_) (fun c_62 => ?_)
          ·
            exact hXt50 k50 v50 ⟨hz50.trans (by rw [zm_name_W50]; exact zif_f d_55 (zlet_e e59 (zif_t c_62 rfl))), by omega, by omega, fun hW0 => (by have hv := hv50.2 hW0; first | (exfalso; omega) | (have h6 := zpow_6 (n := (S8j 0 6 - 1 - k50).toNat) (by omega); omega))⟩ H locs ls hW (lv_sub hl [0, 1, 2] rfl)
          ·
            refine lv_bipush (v := zI 32) hX0 hB0 dX12_name_65 (by decide) ?_
            refine lv_iload_n hX0 hB0 dX12_name_67 rfl (lv_at hl 1 rfl) ?_
            refine z_imul (z := 32 * v50) CX dX12_name_68 rfl ?_
            refine lv_aload_n hX0 hB0 dX12_name_69 rfl (lv_at hl 2 rfl) ?_
            refine z_get (Cn := RX12) (T := TX12) (N := 37) CX hW (v := .ref (o + 1)) zMO_0 rfl (fun w h => List.mem_cons_of_mem _ (List.mem_append_right _ h)) 0 (by decide) (List.mem_of_getElem? (i := 3) rfl) rfl rfl dX12_name_70 ?_
            refine lv_iload_n hX0 hB0 dX12_name_73 rfl (lv_at hl 0 rfl) ?_
            refine z_iald (z := S8j 1 k50.toNat) CX hW zMO_1 0 rfl (by refine ⟨?_, ?_, ?_⟩ <;> omega) rfl dX12_name_74 ?_
            have hr74 := hI8j.r1 k50.toNat
            refine z_iadd (z := (32 * v50) + (S8j 1 k50.toNat)) CX dX12_name_75 rfl ?_
            refine lv_bipush (v := zI 96) hX0 hB0 dX12_name_76 (by decide) ?_
            refine z_isub (z := ((32 * v50) + (S8j 1 k50.toNat)) - 96) CX dX12_name_78 rfl ?_
            refine lv_istore_n (lv' := [(1, .int (zI (((32 * v50) + (S8j 1 k50.toNat)) - 96))), (2, .int (zI k50)), (0, .ref o)]) hX0 hB0 dX12_name_79 rfl hl (by decide) rfl (fun ls hl => ?_)
            refine lv_iinc (v := zI (k50 + (-1))) (lv' := [(2, .int (zI (k50 + (-1)))), (1, .int (zI (((32 * v50) + (S8j 1 k50.toNat)) - 96))), (0, .ref o)]) hX0 hB0 dX12_name_80 hl (k := 1) rfl (zI_add _ _) (by decide) rfl (fun ls hl => ?_)
            refine lv_goto (tgt := 50) hX0 hB0 dX12_name_83 (by decide) ?_
            have hW0 : S8j 0 8 = 0 := hq59.2.2.1 c_62
            obtain ⟨hva, hvb⟩ := hv50
            obtain ⟨hvc, hvd, hve⟩ := hvb hW0
            have hlt := hq1d (hv8j.1 hW0).1 k50.toNat (by omega) (by omega)
            have het : S8j 1 k50.toNat = S 1 k50.toNat := (hf8j 1 _ (by omega)).trans (hf1 1 _ (by omega))
            have hpw := zpow_s (S8j 0 6 - 1 - k50).toNat
            rw [show (S8j 0 6 - 1 - k50).toNat + 1 = (S8j 0 6 - 1 - (k50 + (-1))).toNat by omega] at hpw
            exact ih50 (k50 + (-1)) (((32 * v50) + (S8j 1 k50.toNat)) - 96) ⟨hz50.trans (by rw [zm_name_W50]; exact zif_f d_55 (zlet_e e59 (zif_f c_62 rfl))), by omega, by omega, ⟨by omega, fun _ => ⟨by omega, by omega, by rw [hpw]; omega⟩⟩⟩ (by omega) H locs ls hW (lv_sub hl [0, 1, 2] rfl)
    have hb6 := hI8j.s6
    have hb7 := hI8j.s7
    exact hL50 _ ((S8j 0 6) - 1) 0 ⟨rfl, by omega, by omega, ⟨by omega, fun h => ⟨by omega, by omega, by rw [show (S8j 0 6 - 1 - (S8j 0 6 - 1)).toNat = 0 by omega]; decide⟩⟩⟩ (by have := hI8j.s6; omega) H locs ls hW (lv_sub hl [0, 1, 2] rfl)
  refine z_if_eq (tgt := 41) CX dX12_name_8 (by decide) (by constructor <;> omega) (fun c_8 => ?_) (fun c_8 => ?_)
  ·
    exact hJ8 S1 ⟨(by unfold zm_name_J8; exact zif_t c_8 rfl), hI1, fun kk ii hk => rfl, ⟨fun h => by omega, fun h => by omega⟩⟩ H locs ls hW (lv_sub hl [0] rfl)
  ·
    refine lv_aload_n hX0 hB0 dX12_name_11 rfl (lv_at hl 0 rfl) ?_
    refine z_calli hW (va_runV (C := RX12) (As := []) (rest := []) CX.fix (zk_own l o S1  hI1 ) (cwV 0 CX.fix.2.2.2.2 gX12_name_X12_own rfl rfl rfl (by decide +kernel) ⟨Nat.le_of_ble_eq_true rfl, Nat.le_of_ble_eq_true rfl⟩) (z_preV CX hW (r := (RX12, TX12, 37)) zMO_0 rfl) rfl rfl hl.1 rfl (lv_room (Nat.le_of_ble_eq_true rfl)) dX12_name_12 ⟨Nat.zero_le _, Nat.zero_le _⟩) (fun z12 gn H locs hok hW => ?_)
    obtain ⟨hz12, hg, hq12⟩ := hok
    rw [hg] at hW
    clear hg
    have e12 : zm_own S1 = z12 := hz12.symm
    clear hz12
    refine z_if_ne (tgt := 32) CX dX12_name_15 (by decide) (by constructor <;> omega) (fun c_15 => ?_) (fun c_15 => ?_)
    ·
      refine lv_aload_n hX0 hB0 dX12_name_32 rfl (lv_at hl 0 rfl) ?_
      refine lv_iconst (v := zI 1) hX0 hB0 dX12_name_33 rfl ?_
      refine lv_aload_n hX0 hB0 dX12_name_34 rfl (lv_at hl 0 rfl) ?_
      refine z_get (Cn := RX12) (T := TX12) (N := 37) CX hW (v := .int (zI (S1 0 7))) zMO_0 rfl (fun w h => List.mem_cons_of_mem _ (List.mem_append_right _ h)) 7 (by decide) (List.mem_of_getElem? (i := 2) rfl) rfl rfl dX12_name_35 ?_
      have hr35 := hI1.s7
      refine z_callv hW (va_runV (C := RX12) (As := [.int (zI 1), .int (zI (S1 0 7))]) (rest := []) CX.fix (zk_faults l o S1 1 (S1 0 7) hI1 (by constructor <;> omega) (by constructor <;> omega)) (cwV 2 CX.fix.2.2.2.2 gX12_name_X12_faults rfl rfl rfl (by decide +kernel) ⟨Nat.le_of_ble_eq_true rfl, Nat.le_of_ble_eq_true rfl⟩) (z_preV CX hW (r := (RX12, TX12, 37)) zMO_0 rfl) rfl rfl hl.1 rfl (lv_room (Nat.le_of_ble_eq_true rfl)) dX12_name_38 ⟨Nat.zero_le _, Nat.zero_le _⟩) (fun gn H locs hok hW => ?_)
      obtain ⟨hg, hI38, hf38, hq38⟩ := hok
      obtain ⟨S38, e38⟩ : ∃ q, zm_faults S1 1 (S1 0 7) = q := ⟨_, rfl⟩
      rw [e38] at hg hI38 hf38
      have t38_5 : S38 0 5 = S1 0 5 := hf38 0 5 (by omega)
      have t38_6 : S38 0 6 = S1 0 6 := hf38 0 6 (by omega)
      have t38_7 : S38 0 7 = S1 0 7 := hf38 0 7 (by omega)
      skip
      try rw [e38] at hq38
      rw [hg] at hW
      clear hg
      exact hJ8 S38 ⟨(by unfold zm_name_J8; exact zif_f c_8 (zlet_e e12 (zif_f c_15 (zlet_e e38 rfl)))), hI38, fun kk ii hk => (hf38 kk ii (by omega)), ⟨fun h => by omega, fun h => by omega⟩⟩ H locs ls hW (lv_sub hl [0] rfl)
    ·
      refine lv_aload_n hX0 hB0 dX12_name_18 rfl (lv_at hl 0 rfl) ?_
      refine z_get (Cn := RX12) (T := TX12) (N := 37) CX hW (v := .int (zI (S1 0 6))) zMO_0 rfl (fun w h => List.mem_cons_of_mem _ (List.mem_append_right _ h)) 6 (by decide) (List.mem_of_getElem? (i := 1) rfl) rfl rfl dX12_name_19 ?_
      have hr19 := hI1.s6
      refine lv_aload_n hX0 hB0 dX12_name_22 rfl (lv_at hl 0 rfl) ?_
      refine z_get (Cn := RX12) (T := TX12) (N := 37) CX hW (v := .int (zI (S1 0 7))) zMO_0 rfl (fun w h => List.mem_cons_of_mem _ (List.mem_append_right _ h)) 7 (by decide) (List.mem_of_getElem? (i := 2) rfl) rfl rfl dX12_name_23 ?_
      have hr23 := hI1.s7
      refine z_isub (z := (S1 0 6) - (S1 0 7)) CX dX12_name_26 rfl ?_
      refine lv_bipush (v := zI 6) hX0 hB0 dX12_name_27 (by decide) ?_
      refine z_icmp_le (tgt := 41) CX dX12_name_29 (by decide) (by constructor <;> omega) (by constructor <;> omega) (fun c_29 => ?_) (fun c_29 => ?_)
      ·
        exact hJ8 S1 ⟨(by unfold zm_name_J8; exact zif_f c_8 (zlet_e e12 (zif_t c_15 (zif_t c_29 rfl)))), hI1, fun kk ii hk => rfl, ⟨fun h => by omega, fun h => by omega⟩⟩ H locs ls hW (lv_sub hl [0] rfl)
      ·
        have d_29 : ¬ (S1 0 6) - (S1 0 7) ≤ 6 := by omega
        refine lv_aload_n hX0 hB0 dX12_name_32 rfl (lv_at hl 0 rfl) ?_
        refine lv_iconst (v := zI 1) hX0 hB0 dX12_name_33 rfl ?_
        refine lv_aload_n hX0 hB0 dX12_name_34 rfl (lv_at hl 0 rfl) ?_
        refine z_get (Cn := RX12) (T := TX12) (N := 37) CX hW (v := .int (zI (S1 0 7))) zMO_0 rfl (fun w h => List.mem_cons_of_mem _ (List.mem_append_right _ h)) 7 (by decide) (List.mem_of_getElem? (i := 2) rfl) rfl rfl dX12_name_35 ?_
        have hr35 := hI1.s7
        refine z_callv hW (va_runV (C := RX12) (As := [.int (zI 1), .int (zI (S1 0 7))]) (rest := []) CX.fix (zk_faults l o S1 1 (S1 0 7) hI1 (by constructor <;> omega) (by constructor <;> omega)) (cwV 2 CX.fix.2.2.2.2 gX12_name_X12_faults rfl rfl rfl (by decide +kernel) ⟨Nat.le_of_ble_eq_true rfl, Nat.le_of_ble_eq_true rfl⟩) (z_preV CX hW (r := (RX12, TX12, 37)) zMO_0 rfl) rfl rfl hl.1 rfl (lv_room (Nat.le_of_ble_eq_true rfl)) dX12_name_38 ⟨Nat.zero_le _, Nat.zero_le _⟩) (fun gn H locs hok hW => ?_)
        obtain ⟨hg, hI38, hf38, hq38⟩ := hok
        obtain ⟨S38, e38⟩ : ∃ q, zm_faults S1 1 (S1 0 7) = q := ⟨_, rfl⟩
        rw [e38] at hg hI38 hf38
        have t38_5 : S38 0 5 = S1 0 5 := hf38 0 5 (by omega)
        have t38_6 : S38 0 6 = S1 0 6 := hf38 0 6 (by omega)
        have t38_7 : S38 0 7 = S1 0 7 := hf38 0 7 (by omega)
        skip
        try rw [e38] at hq38
        rw [hg] at hW
        clear hg
        exact hJ8 S38 ⟨(by unfold zm_name_J8; exact zif_f c_8 (zlet_e e12 (zif_t c_15 (zif_f d_29 (zlet_e e38 rfl))))), hI38, fun kk ii hk => (hf38 kk ii (by omega)), ⟨fun h => by omega, fun h => by omega⟩⟩ H locs ls hW (lv_sub hl [0] rfl)
def zm_number_W72  : Nat → Int → zS2 → Int × zS2
  | 0, v72, S72 => (v72, S72)
  | fu72 + 1, v72, S72 => zlet (zm_isDigit S72 (S72 0 6)) (fun z77 => (if z77 = 0 then (v72, S72) else (if v72 ≤ 2147483647 then zlet (zm_byteAt S72 (S72 0 6)) (fun z105 => zlet (za S72 0 6 ((S72 0 6) + 1)) (fun S122 => zm_number_W72 fu72 (((10 * v72) + z105) - 48) S122)) else zlet (za S72 0 6 ((S72 0 6) + 1)) (fun S122 => zm_number_W72 fu72 v72 S122))))
def zm_number (S : zS2)  : Int × zS2 := zlet (zm_goesWell S) (fun z1 => (if z1 = 0 then (0, S) else zlet (zm_here S) (fun q10 => (fun (z10 : Int) (S10 : zS2) => zlet (za S10 0 7 (S10 0 6)) (fun S19 => zlet (zm_isDigit S19 (S19 0 6)) (fun z27 => (if z27 = 0 then zlet (zm_faults S19 1 (S19 0 6)) (fun S65 => (0, S65)) else zlet (zm_isSmall S19 ((S19 0 6) - 1)) (fun z40 => (if z40 = 0 then zlet (zm_isDigit S19 ((S19 0 6) - 1)) (fun z53 => (if z53 = 0 then zlet (zm_number_W72 ((1001 : Nat)) 0 S19) (fun q72 => (fun (v72 : Int) (S72 : zS2) => (if v72 ≤ 2147483647 then zlet (zm_goesWell S72) (fun z146 => (if z146 = 0 then (0, S72) else (v72, S72))) else zlet (zm_faults S72 2 (S72 0 7)) (fun S142 => zlet (zm_goesWell S142) (fun z146 => (if z146 = 0 then (0, S142) else (v72, S142)))))) q72.1 q72.2) else zlet (zm_faults S19 1 (S19 0 6)) (fun S65 => (0, S65)))) else zlet (zm_faults S19 1 (S19 0 6)) (fun S65 => (0, S65)))))))) q10.1 q10.2)))
set_option maxRecDepth 100000 in
set_option maxHeartbeats 4000000 in
theorem zk_number (l : Launch) {D : va_G} {cI cJ cZ cP cS cM : ClassId} {L : List Nat} {sz : Nat} {f : Nat → va_E} (o : Nat) (S : zS2)  (hI : mI S)  : zMl l yX12_number wsX12_number 2 42 D (zT cI cJ cZ cP cS cM) L sz (zMO cI cJ o S f) [.ref o] (fun zv gv => zv = (zm_number S).1 ∧ gv = zMO cI cJ o (zm_number S).2 f ∧ mI (zm_number S).2 ∧ (∀ kk ii : Nat, ¬ (kk = 0 ∧ ii = 6) ∧ ¬ (kk = 0 ∧ ii = 7) ∧ ¬ (kk = 0 ∧ ii = 8) ∧ ¬ (kk = 0 ∧ ii = 9) → (zm_number S).2 kk ii = S kk ii) ∧ (S 0 6 ≤ ((zm_number S).2) 0 6 ∧ (S 0 6 ≤ S 0 5 → ((zm_number S).2) 0 6 ≤ S 0 5)) ∧ 0 ≤ zv ∧ zv ≤ 2147483647 ∧ (S 0 8 ≠ 0 → ((zm_number S).2) 0 8 ≠ 0)) := by
  refine zWalk.met (nL := 3) (ret := (some .long)) (cc := cX12_number) (by decide) rfl (Nat.le_of_ble_eq_true rfl) ?_
  intro pg en st mi ag bl mt cd ls CX hW hl
  have CX : zC pg st mi ag mt cd cX12_number 3 (some .long) RX12 wsX12_number := CX
  generalize hQ : MQ bl _ ag st 0 0 _ = Q
  have hX0 := CX.1
  have hB0 := CX.2.1
  have hl : lv_has ls 3 [(0, .ref o)] := hl
  obtain ⟨H, eH⟩ : ∃ H, H = st.heap := ⟨_, rfl⟩
  obtain ⟨locs, eL⟩ : ∃ L : List Loc, L = [] := ⟨_, rfl⟩
  have hW : zW D (zT cI cJ cZ cP cS cM) L (zQ L sz) st (zMO cI cJ o S f) st.heap H locs := by rw [eH, eL]; exact hW
  suffices hgo : W pg l en ({ frames := 2, cells := 0, slots := 0, locals := 42 } : Room) st mi ag bl mt cd H locs 0 0 Q (F0 mi 0 ls []) by rw [eH, eL] at hgo; exact hgo
  clear eH eL
  have hpb := hI.s10
  have hbs := hI.s5
  have hba := hI.s6
  have hbb := hI.s7
  refine lv_aload_n hX0 hB0 dX12_number_0 rfl (lv_at hl 0 rfl) ?_
  refine z_calli hW (va_runV (C := RX12) (As := []) (rest := []) CX.fix (zk_goesWell l o S  hI ) (cwV 0 CX.fix.2.2.2.2 gX12_number_X12_goesWell rfl rfl rfl (by decide +kernel) ⟨Nat.le_of_ble_eq_true rfl, Nat.le_of_ble_eq_true rfl⟩) (z_preV CX hW (r := (RX12, TX12, 37)) zMO_0 rfl) rfl rfl hl.1 rfl (lv_room (Nat.le_of_ble_eq_true rfl)) dX12_number_1 ⟨Nat.zero_le _, Nat.zero_le _⟩) (fun z1 gn H locs hok hW => ?_)
  obtain ⟨hz1, hg, hq1⟩ := hok
  rw [hg] at hW
  clear hg
  have e1 : zm_goesWell S = z1 := hz1.symm
  clear hz1
  refine z_if_ne (tgt := 9) CX dX12_number_4 (by decide) (by constructor <;> omega) (fun c_4 => ?_) (fun c_4 => ?_)
  ·
    refine lv_aload_n hX0 hB0 dX12_number_9 rfl (lv_at hl 0 rfl) ?_
    refine z_calli hW (va_runV (C := RX12) (As := []) (rest := []) CX.fix (zk_here l o S  hI ) (cwV 0 CX.fix.2.2.2.2 gX12_number_X12_here rfl rfl rfl (by decide +kernel) ⟨Nat.le_of_ble_eq_true rfl, Nat.le_of_ble_eq_true rfl⟩) (z_preV CX hW (r := (RX12, TX12, 37)) zMO_0 rfl) rfl rfl hl.1 rfl (lv_room (Nat.le_of_ble_eq_true rfl)) dX12_number_10 ⟨Nat.zero_le _, Nat.zero_le _⟩) (fun z10 gn H locs hok hW => ?_)
    obtain ⟨hz10, hg, hI10, hf10, hq10⟩ := hok
    obtain ⟨S10, hS10⟩ : ∃ q, q = (zm_here S).2 := ⟨_, rfl⟩
    rw [← hS10] at hg hI10 hf10
    have t10_5 : S10 0 5 = S 0 5 := hf10 0 5 (by omega)
    have t10_7 : S10 0 7 = S 0 7 := hf10 0 7 (by omega)
    have t10_8 : S10 0 8 = S 0 8 := hf10 0 8 (by omega)
    skip
    try rw [← hS10] at hq10
    rw [hg] at hW
    clear hg
    have e10 : zm_here S = (z10, S10) := Prod.ext hz10.symm hS10.symm
    clear hz10 hS10
    refine lv_pop hX0 hB0 dX12_number_13 rfl ?_
    refine lv_aload_n hX0 hB0 dX12_number_14 rfl (lv_at hl 0 rfl) ?_
    refine lv_aload_n hX0 hB0 dX12_number_15 rfl (lv_at hl 0 rfl) ?_
    refine z_get (Cn := RX12) (T := TX12) (N := 37) CX hW (v := .int (zI (S10 0 6))) zMO_0 rfl (fun w h => List.mem_cons_of_mem _ (List.mem_append_right _ h)) 6 (by decide) (List.mem_of_getElem? (i := 1) rfl) rfl rfl dX12_number_16 ?_
    have hr16 := hI10.s6
    obtain ⟨S19, e19⟩ : ∃ q, za S10 0 7 (S10 0 6) = q := ⟨_, rfl⟩
    refine z_put (Cn := RX12) (T := TX12) (N := 37) CX hW (v := .int (zI (S10 0 6))) zMO_0 rfl (fun w h => List.mem_cons_of_mem _ (List.mem_append_right _ h)) tyX12 tyX12_ok nmX12 7 (by decide) (List.mem_of_getElem? (i := 2) rfl) rfl rfl rfl rfl (Nat.le_of_ble_eq_true rfl) (g := zMO cI cJ o S19 f) (zMO_s7.trans (by rw [e19])) dX12_number_19 (fun H locs hW => ?_)
    have hI19 : mI S19 := e19 ▸ hI10.v7 (by constructor <;> omega)
    have t19_5 : S19 0 5 = S10 0 5 := by rw [← e19]; exact za_ne (by omega)
    have t19_6 : S19 0 6 = S10 0 6 := by rw [← e19]; exact za_ne (by omega)
    have t19_7 : S19 0 7 = S10 0 6 := by rw [← e19]; exact za_same
    have t19_8 : S19 0 8 = S10 0 8 := by rw [← e19]; exact za_ne (by omega)
    refine lv_aload_n hX0 hB0 dX12_number_22 rfl (lv_at hl 0 rfl) ?_
    refine lv_aload_n hX0 hB0 dX12_number_23 rfl (lv_at hl 0 rfl) ?_
    refine z_get (Cn := RX12) (T := TX12) (N := 37) CX hW (v := .int (zI (S19 0 6))) zMO_0 rfl (fun w h => List.mem_cons_of_mem _ (List.mem_append_right _ h)) 6 (by decide) (List.mem_of_getElem? (i := 1) rfl) rfl rfl dX12_number_24 ?_
    have hr24 := hI19.s6
    refine z_calli hW (va_runV (C := RX12) (As := [.int (zI (S19 0 6))]) (rest := []) CX.fix (zk_isDigit l o S19 (S19 0 6) hI19 (by constructor <;> omega)) (cwV 1 CX.fix.2.2.2.2 gX12_number_X12_isDigit rfl rfl rfl (by decide +kernel) ⟨Nat.le_of_ble_eq_true rfl, Nat.le_of_ble_eq_true rfl⟩) (z_preV CX hW (r := (RX12, TX12, 37)) zMO_0 rfl) rfl rfl hl.1 rfl (lv_room (Nat.le_of_ble_eq_true rfl)) dX12_number_27 ⟨Nat.zero_le _, Nat.zero_le _⟩) (fun z27 gn H locs hok hW => ?_)
    obtain ⟨hz27, hg, hq27⟩ := hok
    rw [hg] at hW
    clear hg
    have e27 : zm_isDigit S19 (S19 0 6) = z27 := hz27.symm
    clear hz27
    refine z_if_eq (tgt := 59) CX dX12_number_30 (by decide) (by constructor <;> omega) (fun c_30 => ?_) (fun c_30 => ?_)
    ·
      refine lv_aload_n hX0 hB0 dX12_number_59 rfl (lv_at hl 0 rfl) ?_
      refine lv_iconst (v := zI 1) hX0 hB0 dX12_number_60 rfl ?_
      refine lv_aload_n hX0 hB0 dX12_number_61 rfl (lv_at hl 0 rfl) ?_
      refine z_get (Cn := RX12) (T := TX12) (N := 37) CX hW (v := .int (zI (S19 0 6))) zMO_0 rfl (fun w h => List.mem_cons_of_mem _ (List.mem_append_right _ h)) 6 (by decide) (List.mem_of_getElem? (i := 1) rfl) rfl rfl dX12_number_62 ?_
      have hr62 := hI19.s6
      refine z_callv hW (va_runV (C := RX12) (As := [.int (zI 1), .int (zI (S19 0 6))]) (rest := []) CX.fix (zk_faults l o S19 1 (S19 0 6) hI19 (by constructor <;> omega) (by constructor <;> omega)) (cwV 2 CX.fix.2.2.2.2 gX12_number_X12_faults rfl rfl rfl (by decide +kernel) ⟨Nat.le_of_ble_eq_true rfl, Nat.le_of_ble_eq_true rfl⟩) (z_preV CX hW (r := (RX12, TX12, 37)) zMO_0 rfl) rfl rfl hl.1 rfl (lv_room (Nat.le_of_ble_eq_true rfl)) dX12_number_65 ⟨Nat.zero_le _, Nat.zero_le _⟩) (fun gn H locs hok hW => ?_)
      obtain ⟨hg, hI65, hf65, hq65⟩ := hok
      obtain ⟨S65, e65⟩ : ∃ q, zm_faults S19 1 (S19 0 6) = q := ⟨_, rfl⟩
      rw [e65] at hg hI65 hf65
      have t65_5 : S65 0 5 = S19 0 5 := hf65 0 5 (by omega)
      have t65_6 : S65 0 6 = S19 0 6 := hf65 0 6 (by omega)
      have t65_7 : S65 0 7 = S19 0 7 := hf65 0 7 (by omega)
      skip
      try rw [e65] at hq65
      rw [hg] at hW
      clear hg
      refine lv_lconst (v := zL 0) hX0 hB0 dX12_number_68 rfl ?_
      have hE : zm_number S = (0, S65) := by unfold zm_number; exact zlet_e e1 (zif_f c_4 (zlet_e e10 (zlet_e e19 (zlet_e e27 (zif_t c_30 (zlet_e e65 rfl))))))
      have hFr : ∀ kk ii : Nat, ¬ (kk = 0 ∧ ii = 6) ∧ ¬ (kk = 0 ∧ ii = 7) ∧ ¬ (kk = 0 ∧ ii = 8) ∧ ¬ (kk = 0 ∧ ii = 9) → S65 kk ii = S kk ii := fun kk ii hk => (((hf65 kk ii (by omega))).trans (show S19 kk ii = S10 kk ii from by rw [← e19]; exact za_ne (by omega))).trans (hf10 kk ii (by omega))
      rw [← hQ]
      exact z_lret (z := 0) CX hW (by rw [hE]; exact ⟨rfl, rfl, hI65, hFr, (show (S 0 6 ≤ S65 0 6 ∧ (S 0 6 ≤ S 0 5 → S65 0 6 ≤ S 0 5)) ∧ 0 ≤ (0 : Int) ∧ (0 : Int) ≤ 2147483647 ∧ (S 0 8 ≠ 0 → S65 0 8 ≠ 0) from by omega)⟩) dX12_number_69
    ·
      refine lv_aload_n hX0 hB0 dX12_number_33 rfl (lv_at hl 0 rfl) ?_
      refine lv_aload_n hX0 hB0 dX12_number_34 rfl (lv_at hl 0 rfl) ?_
      refine z_get (Cn := RX12) (T := TX12) (N := 37) CX hW (v := .int (zI (S19 0 6))) zMO_0 rfl (fun w h => List.mem_cons_of_mem _ (List.mem_append_right _ h)) 6 (by decide) (List.mem_of_getElem? (i := 1) rfl) rfl rfl dX12_number_35 ?_
      have hr35 := hI19.s6
      refine lv_iconst (v := zI 1) hX0 hB0 dX12_number_38 rfl ?_
      refine z_isub (z := (S19 0 6) - 1) CX dX12_number_39 rfl ?_
      refine z_calli hW (va_runV (C := RX12) (As := [.int (zI ((S19 0 6) - 1))]) (rest := []) CX.fix (zk_isSmall l o S19 ((S19 0 6) - 1) hI19 (by constructor <;> omega)) (cwV 1 CX.fix.2.2.2.2 gX12_number_X12_isSmall rfl rfl rfl (by decide +kernel) ⟨Nat.le_of_ble_eq_true rfl, Nat.le_of_ble_eq_true rfl⟩) (z_preV CX hW (r := (RX12, TX12, 37)) zMO_0 rfl) rfl rfl hl.1 rfl (lv_room (Nat.le_of_ble_eq_true rfl)) dX12_number_40 ⟨Nat.zero_le _, Nat.zero_le _⟩) (fun z40 gn H locs hok hW => ?_)
      obtain ⟨hz40, hg, hq40⟩ := hok
      rw [hg] at hW
      clear hg
      have e40 : zm_isSmall S19 ((S19 0 6) - 1) = z40 := hz40.symm
      clear hz40
      refine z_if_ne (tgt := 59) CX dX12_number_43 (by decide) (by constructor <;> omega) (fun c_43 => ?_) (fun c_43 => ?_)
      ·
        refine lv_aload_n hX0 hB0 dX12_number_59 rfl (lv_at hl 0 rfl) ?_
        refine lv_iconst (v := zI 1) hX0 hB0 dX12_number_60 rfl ?_
        refine lv_aload_n hX0 hB0 dX12_number_61 rfl (lv_at hl 0 rfl) ?_
        refine z_get (Cn := RX12) (T := TX12) (N := 37) CX hW (v := .int (zI (S19 0 6))) zMO_0 rfl (fun w h => List.mem_cons_of_mem _ (List.mem_append_right _ h)) 6 (by decide) (List.mem_of_getElem? (i := 1) rfl) rfl rfl dX12_number_62 ?_
        have hr62 := hI19.s6
        refine z_callv hW (va_runV (C := RX12) (As := [.int (zI 1), .int (zI (S19 0 6))]) (rest := []) CX.fix (zk_faults l o S19 1 (S19 0 6) hI19 (by constructor <;> omega) (by constructor <;> omega)) (cwV 2 CX.fix.2.2.2.2 gX12_number_X12_faults rfl rfl rfl (by decide +kernel) ⟨Nat.le_of_ble_eq_true rfl, Nat.le_of_ble_eq_true rfl⟩) (z_preV CX hW (r := (RX12, TX12, 37)) zMO_0 rfl) rfl rfl hl.1 rfl (lv_room (Nat.le_of_ble_eq_true rfl)) dX12_number_65 ⟨Nat.zero_le _, Nat.zero_le _⟩) (fun gn H locs hok hW => ?_)
        obtain ⟨hg, hI65, hf65, hq65⟩ := hok
        obtain ⟨S65, e65⟩ : ∃ q, zm_faults S19 1 (S19 0 6) = q := ⟨_, rfl⟩
        rw [e65] at hg hI65 hf65
        have t65_5 : S65 0 5 = S19 0 5 := hf65 0 5 (by omega)
        have t65_6 : S65 0 6 = S19 0 6 := hf65 0 6 (by omega)
        have t65_7 : S65 0 7 = S19 0 7 := hf65 0 7 (by omega)
        skip
        try rw [e65] at hq65
        rw [hg] at hW
        clear hg
        refine lv_lconst (v := zL 0) hX0 hB0 dX12_number_68 rfl ?_
        have hE : zm_number S = (0, S65) := by unfold zm_number; exact zlet_e e1 (zif_f c_4 (zlet_e e10 (zlet_e e19 (zlet_e e27 (zif_f c_30 (zlet_e e40 (zif_f c_43 (zlet_e e65 rfl))))))))
        have hFr : ∀ kk ii : Nat, ¬ (kk = 0 ∧ ii = 6) ∧ ¬ (kk = 0 ∧ ii = 7) ∧ ¬ (kk = 0 ∧ ii = 8) ∧ ¬ (kk = 0 ∧ ii = 9) → S65 kk ii = S kk ii := fun kk ii hk => (((hf65 kk ii (by omega))).trans (show S19 kk ii = S10 kk ii from by rw [← e19]; exact za_ne (by omega))).trans (hf10 kk ii (by omega))
        rw [← hQ]
        exact z_lret (z := 0) CX hW (by rw [hE]; exact ⟨rfl, rfl, hI65, hFr, (show (S 0 6 ≤ S65 0 6 ∧ (S 0 6 ≤ S 0 5 → S65 0 6 ≤ S 0 5)) ∧ 0 ≤ (0 : Int) ∧ (0 : Int) ≤ 2147483647 ∧ (S 0 8 ≠ 0 → S65 0 8 ≠ 0) from by omega)⟩) dX12_number_69
      ·
        refine lv_aload_n hX0 hB0 dX12_number_46 rfl (lv_at hl 0 rfl) ?_
        refine lv_aload_n hX0 hB0 dX12_number_47 rfl (lv_at hl 0 rfl) ?_
        refine z_get (Cn := RX12) (T := TX12) (N := 37) CX hW (v := .int (zI (S19 0 6))) zMO_0 rfl (fun w h => List.mem_cons_of_mem _ (List.mem_append_right _ h)) 6 (by decide) (List.mem_of_getElem? (i := 1) rfl) rfl rfl dX12_number_48 ?_
        have hr48 := hI19.s6
        refine lv_iconst (v := zI 1) hX0 hB0 dX12_number_51 rfl ?_
        refine z_isub (z := (S19 0 6) - 1) CX dX12_number_52 rfl ?_
        refine z_calli hW (va_runV (C := RX12) (As := [.int (zI ((S19 0 6) - 1))]) (rest := []) CX.fix (zk_isDigit l o S19 ((S19 0 6) - 1) hI19 (by constructor <;> omega)) (cwV 1 CX.fix.2.2.2.2 gX12_number_X12_isDigit rfl rfl rfl (by decide +kernel) ⟨Nat.le_of_ble_eq_true rfl, Nat.le_of_ble_eq_true rfl⟩) (z_preV CX hW (r := (RX12, TX12, 37)) zMO_0 rfl) rfl rfl hl.1 rfl (lv_room (Nat.le_of_ble_eq_true rfl)) dX12_number_53 ⟨Nat.zero_le _, Nat.zero_le _⟩) (fun z53 gn H locs hok hW => ?_)
        obtain ⟨hz53, hg, hq53⟩ := hok
        rw [hg] at hW
        clear hg
        have e53 : zm_isDigit S19 ((S19 0 6) - 1) = z53 := hz53.symm
        clear hz53
        refine z_if_eq (tgt := 70) CX dX12_number_56 (by decide) (by constructor <;> omega) (fun c_56 => ?_) (fun c_56 => ?_)
        ·
          refine lv_lconst (v := zL 0) hX0 hB0 dX12_number_70 rfl ?_
          refine lv_lstore_n (lv' := [(1, .long (zL 0)), (0, .ref o)]) hX0 hB0 dX12_number_71 rfl hl (by decide) rfl (fun ls hl => ?_)
          have hXt72 : ∀ (v72 : Int) (S72 : zS2), (zm_number_W72 ((1001 : Nat)) 0 S19 = (v72, S72) ∧ mI S72 ∧ (∀ kk ii : Nat, ¬ (kk = 0 ∧ ii = 6) → S72 kk ii = S19 kk ii) ∧ 0 ≤ v72 ∧ v72 ≤ 21474836479 ∧ (S 0 6 ≤ S72 0 6 ∧ (S 0 6 ≤ S 0 5 → S72 0 6 ≤ S 0 5))) → ∀ (H : Heap) (locs : List Loc) (ls : Array Slot), zW D (zT cI cJ cZ cP cS cM) L (zQ L sz) st (zMO cI cJ o S72 f) st.heap H locs → lv_has ls 3 [(1, .long (zL v72)), (0, .ref o)] → W pg l en ({ frames := 2, cells := 0, slots := 0, locals := 42 } : Room) st mi ag bl mt cd H locs 0 0 Q (F0 mi 128 ls []) := by
            intro v72 S72 hinv H locs ls hW hl
            obtain ⟨e72, hI72, hf72, hav72, hbv72, hv72⟩ := hinv
            have hp72 := hI72.s10
            have t72_5 : S72 0 5 = S19 0 5 := hf72 0 5 (by omega)
            have t72_7 : S72 0 7 = S19 0 7 := hf72 0 7 (by omega)
            have t72_8 : S72 0 8 = S19 0 8 := hf72 0 8 (by omega)
            refine lv_lload_n hX0 hB0 dX12_number_128 rfl (lv_at hl 0 rfl) ?_
            refine lv_ldc2 (v := zL 2147483647) hX0 hB0 CX.2.2.2.1 (CX.at (List.mem_of_getElem? (i := 3) rfl)) dX12_number_129 ?_
            refine z_lcmp CX dX12_number_132 (by constructor <;> omega) (by constructor <;> omega) ?_
            have hcm132 := zcmp_rng v72 2147483647
            refine z_if_le (tgt := 145) CX dX12_number_133 (by decide) (by constructor <;> omega) (fun c_133 => ?_) (fun c_133 => ?_)
            ·
              simp only [zcmp_lt, zcmp_le, zcmp_gt, zcmp_ge, zcmp_eq] at c_133
              refine lv_aload_n hX0 hB0 dX12_number_145 rfl (lv_at hl 1 rfl) ?_
              refine z_calli hW (va_runV (C := RX12) (As := []) (rest := []) CX.fix (zk_goesWell l o S72  hI72 ) (cwV 0 CX.fix.2.2.2.2 gX12_number_X12_goesWell rfl rfl rfl (by decide +kernel) ⟨Nat.le_of_ble_eq_true rfl, Nat.le_of_ble_eq_true rfl⟩) (z_preV CX hW (r := (RX12, TX12, 37)) zMO_0 rfl) rfl rfl hl.1 rfl (lv_room (Nat.le_of_ble_eq_true rfl)) dX12_number_146 ⟨Nat.zero_le _, Nat.zero_le _⟩) (fun z146 gn H locs hok hW => ?_)
              obtain ⟨hz146, hg, hq146⟩ := hok
              rw [hg] at hW
              clear hg
              have e146 : zm_goesWell S72 = z146 := hz146.symm
              clear hz146
              refine z_if_eq (tgt := 156) CX dX12_number_149 (by decide) (by constructor <;> omega) (fun c_149 => ?_) (fun c_149 => ?_)
              ·
                refine lv_lconst (v := zL 0) hX0 hB0 dX12_number_156 rfl ?_
                have hE : zm_number S = (0, S72) := by unfold zm_number; exact zlet_e e1 (zif_f c_4 (zlet_e e10 (zlet_e e19 (zlet_e e27 (zif_f c_30 (zlet_e e40 (zif_t c_43 (zlet_e e53 (zif_t c_56 (zlet_e e72 (zif_t c_133 (zlet_e e146 (zif_t c_149 rfl)))))))))))))
                have hFr : ∀ kk ii : Nat, ¬ (kk = 0 ∧ ii = 6) ∧ ¬ (kk = 0 ∧ ii = 7) ∧ ¬ (kk = 0 ∧ ii = 8) ∧ ¬ (kk = 0 ∧ ii = 9) → S72 kk ii = S kk ii := fun kk ii hk => (((hf72 kk ii (by omega))).trans (show S19 kk ii = S10 kk ii from by rw [← e19]; exact za_ne (by omega))).trans (hf10 kk ii (by omega))
                rw [← hQ]
                exact z_lret (z := 0) CX hW (by rw [hE]; exact ⟨rfl, rfl, hI72, hFr, (show (S 0 6 ≤ S72 0 6 ∧ (S 0 6 ≤ S 0 5 → S72 0 6 ≤ S 0 5)) ∧ 0 ≤ (0 : Int) ∧ (0 : Int) ≤ 2147483647 ∧ (S 0 8 ≠ 0 → S72 0 8 ≠ 0) from by omega)⟩) dX12_number_157
              ·
                refine lv_lload_n hX0 hB0 dX12_number_152 rfl (lv_at hl 0 rfl) ?_
                refine lv_goto (tgt := 157) hX0 hB0 dX12_number_153 (by decide) ?_
                have hE : zm_number S = (v72, S72) := by unfold zm_number; exact zlet_e e1 (zif_f c_4 (zlet_e e10 (zlet_e e19 (zlet_e e27 (zif_f c_30 (zlet_e e40 (zif_t c_43 (zlet_e e53 (zif_t c_56 (zlet_e e72 (zif_t c_133 (zlet_e e146 (zif_f c_149 rfl)))))))))))))
                have hFr : ∀ kk ii : Nat, ¬ (kk = 0 ∧ ii = 6) ∧ ¬ (kk = 0 ∧ ii = 7) ∧ ¬ (kk = 0 ∧ ii = 8) ∧ ¬ (kk = 0 ∧ ii = 9) → S72 kk ii = S kk ii := fun kk ii hk => (((hf72 kk ii (by omega))).trans (show S19 kk ii = S10 kk ii from by rw [← e19]; exact za_ne (by omega))).trans (hf10 kk ii (by omega))
                rw [← hQ]
                exact z_lret (z := v72) CX hW (by rw [hE]; exact ⟨rfl, rfl, hI72, hFr, (show (S 0 6 ≤ S72 0 6 ∧ (S 0 6 ≤ S 0 5 → S72 0 6 ≤ S 0 5)) ∧ 0 ≤ v72 ∧ v72 ≤ 2147483647 ∧ (S 0 8 ≠ 0 → S72 0 8 ≠ 0) from by omega)⟩) dX12_number_157
            ·
              simp only [zcmp_lt, zcmp_le, zcmp_gt, zcmp_ge, zcmp_eq] at c_133
              have d_133 : ¬ v72 ≤ 2147483647 := by omega
              refine lv_aload_n hX0 hB0 dX12_number_136 rfl (lv_at hl 1 rfl) ?_
              refine lv_iconst (v := zI 2) hX0 hB0 dX12_number_137 rfl ?_
              refine lv_aload_n hX0 hB0 dX12_number_138 rfl (lv_at hl 1 rfl) ?_
              refine z_get (Cn := RX12) (T := TX12) (N := 37) CX hW (v := .int (zI (S72 0 7))) zMO_0 rfl (fun w h => List.mem_cons_of_mem _ (List.mem_append_right _ h)) 7 (by decide) (List.mem_of_getElem? (i := 2) rfl) rfl rfl dX12_number_139 ?_
              have hr139 := hI72.s7
              refine z_callv hW (va_runV (C := RX12) (As := [.int (zI 2), .int (zI (S72 0 7))]) (rest := []) CX.fix (zk_faults l o S72 2 (S72 0 7) hI72 (by constructor <;> omega) (by constructor <;> omega)) (cwV 2 CX.fix.2.2.2.2 gX12_number_X12_faults rfl rfl rfl (by decide +kernel) ⟨Nat.le_of_ble_eq_true rfl, Nat.le_of_ble_eq_true rfl⟩) (z_preV CX hW (r := (RX12, TX12, 37)) zMO_0 rfl) rfl rfl hl.1 rfl (lv_room (Nat.le_of_ble_eq_true rfl)) dX12_number_142 ⟨Nat.zero_le _, Nat.zero_le _⟩) (fun gn H locs hok hW => ?_)
              obtain ⟨hg, hI142, hf142, hq142⟩ := hok
              obtain ⟨S142, e142⟩ : ∃ q, zm_faults S72 2 (S72 0 7) = q := ⟨_, rfl⟩
              rw [e142] at hg hI142 hf142
              have t142_5 : S142 0 5 = S72 0 5 := hf142 0 5 (by omega)
              have t142_6 : S142 0 6 = S72 0 6 := hf142 0 6 (by omega)
              have t142_7 : S142 0 7 = S72 0 7 := hf142 0 7 (by omega)
              skip
              try rw [e142] at hq142
              rw [hg] at hW
              clear hg
              refine lv_aload_n hX0 hB0 dX12_number_145 rfl (lv_at hl 1 rfl) ?_
              refine z_calli hW (va_runV (C := RX12) (As := []) (rest := []) CX.fix (zk_goesWell l o S142  hI142 ) (cwV 0 CX.fix.2.2.2.2 gX12_number_X12_goesWell rfl rfl rfl (by decide +kernel) ⟨Nat.le_of_ble_eq_true rfl, Nat.le_of_ble_eq_true rfl⟩) (z_preV CX hW (r := (RX12, TX12, 37)) zMO_0 rfl) rfl rfl hl.1 rfl (lv_room (Nat.le_of_ble_eq_true rfl)) dX12_number_146 ⟨Nat.zero_le _, Nat.zero_le _⟩) (fun z146 gn H locs hok hW => ?_)
              obtain ⟨hz146, hg, hq146⟩ := hok
              rw [hg] at hW
              clear hg
              have e146 : zm_goesWell S142 = z146 := hz146.symm
              clear hz146
              refine z_if_eq (tgt := 156) CX dX12_number_149 (by decide) (by constructor <;> omega) (fun c_149 => ?_) (fun c_149 => ?_)
              ·
                refine lv_lconst (v := zL 0) hX0 hB0 dX12_number_156 rfl ?_
                have hE : zm_number S = (0, S142) := by unfold zm_number; exact zlet_e e1 (zif_f c_4 (zlet_e e10 (zlet_e e19 (zlet_e e27 (zif_f c_30 (zlet_e e40 (zif_t c_43 (zlet_e e53 (zif_t c_56 (zlet_e e72 (zif_f d_133 (zlet_e e142 (zlet_e e146 (zif_t c_149 rfl))))))))))))))
                have hFr : ∀ kk ii : Nat, ¬ (kk = 0 ∧ ii = 6) ∧ ¬ (kk = 0 ∧ ii = 7) ∧ ¬ (kk = 0 ∧ ii = 8) ∧ ¬ (kk = 0 ∧ ii = 9) → S142 kk ii = S kk ii := fun kk ii hk => ((((hf142 kk ii (by omega))).trans (hf72 kk ii (by omega))).trans (show S19 kk ii = S10 kk ii from by rw [← e19]; exact za_ne (by omega))).trans (hf10 kk ii (by omega))
                rw [← hQ]
                exact z_lret (z := 0) CX hW (by rw [hE]; exact ⟨rfl, rfl, hI142, hFr, (show (S 0 6 ≤ S142 0 6 ∧ (S 0 6 ≤ S 0 5 → S142 0 6 ≤ S 0 5)) ∧ 0 ≤ (0 : Int) ∧ (0 : Int) ≤ 2147483647 ∧ (S 0 8 ≠ 0 → S142 0 8 ≠ 0) from by omega)⟩) dX12_number_157
              ·
                refine lv_lload_n hX0 hB0 dX12_number_152 rfl (lv_at hl 0 rfl) ?_
                refine lv_goto (tgt := 157) hX0 hB0 dX12_number_153 (by decide) ?_
                have hE : zm_number S = (v72, S142) := by unfold zm_number; exact zlet_e e1 (zif_f c_4 (zlet_e e10 (zlet_e e19 (zlet_e e27 (zif_f c_30 (zlet_e e40 (zif_t c_43 (zlet_e e53 (zif_t c_56 (zlet_e e72 (zif_f d_133 (zlet_e e142 (zlet_e e146 (zif_f c_149 rfl))))))))))))))
                have hFr : ∀ kk ii : Nat, ¬ (kk = 0 ∧ ii = 6) ∧ ¬ (kk = 0 ∧ ii = 7) ∧ ¬ (kk = 0 ∧ ii = 8) ∧ ¬ (kk = 0 ∧ ii = 9) → S142 kk ii = S kk ii := fun kk ii hk => ((((hf142 kk ii (by omega))).trans (hf72 kk ii (by omega))).trans (show S19 kk ii = S10 kk ii from by rw [← e19]; exact za_ne (by omega))).trans (hf10 kk ii (by omega))
                rw [← hQ]
                exact z_lret (z := v72) CX hW (by rw [hE]; exact ⟨rfl, rfl, hI142, hFr, (show (S 0 6 ≤ S142 0 6 ∧ (S 0 6 ≤ S 0 5 → S142 0 6 ≤ S 0 5)) ∧ 0 ≤ v72 ∧ v72 ≤ 2147483647 ∧ (S 0 8 ≠ 0 → S142 0 8 ≠ 0) from by omega)⟩) dX12_number_157
          have hL72 : ∀ (fu : Nat) (v72 : Int) (S72 : zS2), (zm_number_W72 ((1001 : Nat)) 0 S19 = zm_number_W72 fu v72 S72 ∧ mI S72 ∧ (∀ kk ii : Nat, ¬ (kk = 0 ∧ ii = 6) → S72 kk ii = S19 kk ii) ∧ 0 ≤ v72 ∧ v72 ≤ 21474836479 ∧ (S 0 6 ≤ S72 0 6 ∧ (S 0 6 ≤ S 0 5 → S72 0 6 ≤ S 0 5))) → (S72 0 5 - S72 0 6).toNat < fu → ∀ (H : Heap) (locs : List Loc) (ls : Array Slot), zW D (zT cI cJ cZ cP cS cM) L (zQ L sz) st (zMO cI cJ o S72 f) st.heap H locs → lv_has ls 3 [(1, .long (zL v72)), (0, .ref o)] → W pg l en ({ frames := 2, cells := 0, slots := 0, locals := 42 } : Room) st mi ag bl mt cd H locs 0 0 Q (F0 mi 72 ls []) := by
            intro fu
            induction fu with
            | zero => intro v72 S72 _ hfu; exact absurd hfu (Nat.not_lt_zero _)
            | succ fu ih72 =>
              intro v72 S72 hinv hfu72 H locs ls hW hl
              obtain ⟨hz72, hI72, hf72, hav72, hbv72, hv72⟩ := hinv
              have hp72 := hI72.s10
              have t72_5 : S72 0 5 = S19 0 5 := hf72 0 5 (by omega)
              have t72_7 : S72 0 7 = S19 0 7 := hf72 0 7 (by omega)
              have t72_8 : S72 0 8 = S19 0 8 := hf72 0 8 (by omega)
              have hb6 := hI72.s6
              refine lv_aload_n hX0 hB0 dX12_number_72 rfl (lv_at hl 1 rfl) ?_
              refine lv_aload_n hX0 hB0 dX12_number_73 rfl (lv_at hl 1 rfl) ?_
              refine z_get (Cn := RX12) (T := TX12) (N := 37) CX hW (v := .int (zI (S72 0 6))) zMO_0 rfl (fun w h => List.mem_cons_of_mem _ (List.mem_append_right _ h)) 6 (by decide) (List.mem_of_getElem? (i := 1) rfl) rfl rfl dX12_number_74 ?_
              have hr74 := hI72.s6
              refine z_calli hW (va_runV (C := RX12) (As := [.int (zI (S72 0 6))]) (rest := []) CX.fix (zk_isDigit l o S72 (S72 0 6) hI72 (by constructor <;> omega)) (cwV 1 CX.fix.2.2.2.2 gX12_number_X12_isDigit rfl rfl rfl (by decide +kernel) ⟨Nat.le_of_ble_eq_true rfl, Nat.le_of_ble_eq_true rfl⟩) (z_preV CX hW (r := (RX12, TX12, 37)) zMO_0 rfl) rfl rfl hl.1 rfl (lv_room (Nat.le_of_ble_eq_true rfl)) dX12_number_77 ⟨Nat.zero_le _, Nat.zero_le _⟩) (fun z77 gn H locs hok hW => ?_)
              obtain ⟨hz77, hg, hq77⟩ := hok
              rw [hg] at hW
              clear hg
              have e77 : zm_isDigit S72 (S72 0 6) = z77 := hz77.symm
              clear hz77
              refine z_if_eq (tgt := 128) CX dX12_number_80 (by decide) (by constructor <;> omega) (fun c_80 => ?_) (fun c_80 => ?_)
              ·
                exact hXt72 v72 S72 ⟨hz72.trans (by rw [zm_number_W72]; exact zlet_e e77 (zif_t c_80 rfl)), hI72, fun kk ii hk => (hf72 kk ii (by omega)), by omega, by omega, by omega⟩ H locs ls hW (lv_sub hl [0, 1] rfl)
              ·
                have hdg := hq77.2.2 c_80
                refine lv_lload_n hX0 hB0 dX12_number_83 rfl (lv_at hl 0 rfl) ?_
                refine lv_ldc2 (v := zL 2147483647) hX0 hB0 CX.2.2.2.1 (CX.at (List.mem_of_getElem? (i := 3) rfl)) dX12_number_84 ?_
                refine z_lcmp CX dX12_number_87 (by constructor <;> omega) (by constructor <;> omega) ?_
                have hcm87 := zcmp_rng v72 2147483647
                refine z_if_le (tgt := 95) CX dX12_number_88 (by decide) (by constructor <;> omega) (fun c_88 => ?_) (fun c_88 => ?_)
                ·
                  simp only [zcmp_lt, zcmp_le, zcmp_gt, zcmp_ge, zcmp_eq] at c_88
                  refine lv_ldc2 (v := zL 10) hX0 hB0 CX.2.2.2.1 (CX.at (List.mem_of_getElem? (i := 4) rfl)) dX12_number_95 ?_
                  refine lv_lload_n hX0 hB0 dX12_number_98 rfl (lv_at hl 0 rfl) ?_
                  refine z_lmul (z := 10 * v72) CX dX12_number_99 rfl ?_
                  refine lv_aload_n hX0 hB0 dX12_number_100 rfl (lv_at hl 1 rfl) ?_
                  refine lv_aload_n hX0 hB0 dX12_number_101 rfl (lv_at hl 1 rfl) ?_
                  refine z_get (Cn := RX12) (T := TX12) (N := 37) CX hW (v := .int (zI (S72 0 6))) zMO_0 rfl (fun w h => List.mem_cons_of_mem _ (List.mem_append_right _ h)) 6 (by decide) (List.mem_of_getElem? (i := 1) rfl) rfl rfl dX12_number_102 ?_
                  have hr102 := hI72.s6
                  refine z_calli hW (va_runV (C := RX12) (As := [.int (zI (S72 0 6))]) (rest := [.long (zL (10 * v72))]) CX.fix (zk_byteAt l o S72 (S72 0 6) hI72 (by constructor <;> omega)) (cwV 1 CX.fix.2.2.2.2 gX12_number_X12_byteAt rfl rfl rfl (by decide +kernel) ⟨Nat.le_of_ble_eq_true rfl, Nat.le_of_ble_eq_true rfl⟩) (z_preV CX hW (r := (RX12, TX12, 37)) zMO_0 rfl) rfl rfl hl.1 rfl (lv_room (Nat.le_of_ble_eq_true rfl)) dX12_number_105 ⟨Nat.zero_le _, Nat.zero_le _⟩) (fun z105 gn H locs hok hW => ?_)
                  obtain ⟨hz105, hg, hq105⟩ := hok
                  rw [hg] at hW
                  clear hg
                  have e105 : zm_byteAt S72 (S72 0 6) = z105 := hz105.symm
                  clear hz105
                  refine z_i2l CX dX12_number_108 (by constructor <;> omega) ?_
                  refine z_ladd (z := (10 * v72) + z105) CX dX12_number_109 rfl ?_
                  refine lv_ldc2 (v := zL 48) hX0 hB0 CX.2.2.2.1 (CX.at (List.mem_of_getElem? (i := 5) rfl)) dX12_number_110 ?_
                  refine z_lsub (z := ((10 * v72) + z105) - 48) CX dX12_number_113 rfl ?_
                  refine lv_lstore_n (lv' := [(1, .long (zL (((10 * v72) + z105) - 48))), (0, .ref o)]) hX0 hB0 dX12_number_114 rfl hl (by decide) rfl (fun ls hl => ?_)
                  refine lv_aload_n hX0 hB0 dX12_number_115 rfl (lv_at hl 1 rfl) ?_
                  refine lv_dup hX0 hB0 dX12_number_116 rfl ?_
                  refine z_get (Cn := RX12) (T := TX12) (N := 37) CX hW (v := .int (zI (S72 0 6))) zMO_0 rfl (fun w h => List.mem_cons_of_mem _ (List.mem_append_right _ h)) 6 (by decide) (List.mem_of_getElem? (i := 1) rfl) rfl rfl dX12_number_117 ?_
                  have hr117 := hI72.s6
                  refine lv_iconst (v := zI 1) hX0 hB0 dX12_number_120 rfl ?_
                  refine z_iadd (z := (S72 0 6) + 1) CX dX12_number_121 rfl ?_
                  obtain ⟨S122, e122⟩ : ∃ q, za S72 0 6 ((S72 0 6) + 1) = q := ⟨_, rfl⟩
                  refine z_put (Cn := RX12) (T := TX12) (N := 37) CX hW (v := .int (zI ((S72 0 6) + 1))) zMO_0 rfl (fun w h => List.mem_cons_of_mem _ (List.mem_append_right _ h)) tyX12 tyX12_ok nmX12 6 (by decide) (List.mem_of_getElem? (i := 1) rfl) rfl rfl rfl rfl (Nat.le_of_ble_eq_true rfl) (g := zMO cI cJ o S122 f) (zMO_s6.trans (by rw [e122])) dX12_number_122 (fun H locs hW => ?_)
                  have hI122 : mI S122 := e122 ▸ hI72.v6 (by constructor <;> omega)
                  have t122_5 : S122 0 5 = S72 0 5 := by rw [← e122]; exact za_ne (by omega)
                  have t122_6 : S122 0 6 = (S72 0 6) + 1 := by rw [← e122]; exact za_same
                  have t122_7 : S122 0 7 = S72 0 7 := by rw [← e122]; exact za_ne (by omega)
                  have t122_8 : S122 0 8 = S72 0 8 := by rw [← e122]; exact za_ne (by omega)
                  refine lv_goto (tgt := 72) hX0 hB0 dX12_number_125 (by decide) ?_
                  exact ih72 (((10 * v72) + z105) - 48) S122 ⟨hz72.trans (by rw [zm_number_W72]; exact zlet_e e77 (zif_f c_80 (zif_t c_88 (zlet_e e105 (zlet_e e122 rfl))))), hI122, fun kk ii hk => ((show S122 kk ii = S72 kk ii from by rw [← e122]; exact za_ne (by omega))).trans (hf72 kk ii (by omega)), by omega, by omega, by omega⟩ (by omega) H locs ls hW (lv_sub hl [0, 1] rfl)
                ·
                  simp only [zcmp_lt, zcmp_le, zcmp_gt, zcmp_ge, zcmp_eq] at c_88
                  have d_88 : ¬ v72 ≤ 2147483647 := by omega
                  refine lv_lload_n hX0 hB0 dX12_number_91 rfl (lv_at hl 0 rfl) ?_
                  refine lv_goto (tgt := 114) hX0 hB0 dX12_number_92 (by decide) ?_
                  refine lv_lstore_n (lv' := [(1, .long (zL v72)), (0, .ref o)]) hX0 hB0 dX12_number_114 rfl hl (by decide) rfl (fun ls hl => ?_)
                  refine lv_aload_n hX0 hB0 dX12_number_115 rfl (lv_at hl 1 rfl) ?_
                  refine lv_dup hX0 hB0 dX12_number_116 rfl ?_
                  refine z_get (Cn := RX12) (T := TX12) (N := 37) CX hW (v := .int (zI (S72 0 6))) zMO_0 rfl (fun w h => List.mem_cons_of_mem _ (List.mem_append_right _ h)) 6 (by decide) (List.mem_of_getElem? (i := 1) rfl) rfl rfl dX12_number_117 ?_
                  have hr117 := hI72.s6
                  refine lv_iconst (v := zI 1) hX0 hB0 dX12_number_120 rfl ?_
                  refine z_iadd (z := (S72 0 6) + 1) CX dX12_number_121 rfl ?_
                  obtain ⟨S122, e122⟩ : ∃ q, za S72 0 6 ((S72 0 6) + 1) = q := ⟨_, rfl⟩
                  refine z_put (Cn := RX12) (T := TX12) (N := 37) CX hW (v := .int (zI ((S72 0 6) + 1))) zMO_0 rfl (fun w h => List.mem_cons_of_mem _ (List.mem_append_right _ h)) tyX12 tyX12_ok nmX12 6 (by decide) (List.mem_of_getElem? (i := 1) rfl) rfl rfl rfl rfl (Nat.le_of_ble_eq_true rfl) (g := zMO cI cJ o S122 f) (zMO_s6.trans (by rw [e122])) dX12_number_122 (fun H locs hW => ?_)
                  have hI122 : mI S122 := e122 ▸ hI72.v6 (by constructor <;> omega)
                  have t122_5 : S122 0 5 = S72 0 5 := by rw [← e122]; exact za_ne (by omega)
                  have t122_6 : S122 0 6 = (S72 0 6) + 1 := by rw [← e122]; exact za_same
                  have t122_7 : S122 0 7 = S72 0 7 := by rw [← e122]; exact za_ne (by omega)
                  have t122_8 : S122 0 8 = S72 0 8 := by rw [← e122]; exact za_ne (by omega)
                  refine lv_goto (tgt := 72) hX0 hB0 dX12_number_125 (by decide) ?_
                  exact ih72 v72 S122 ⟨hz72.trans (by rw [zm_number_W72]; exact zlet_e e77 (zif_f c_80 (zif_f d_88 (zlet_e e122 rfl)))), hI122, fun kk ii hk => ((show S122 kk ii = S72 kk ii from by rw [← e122]; exact za_ne (by omega))).trans (hf72 kk ii (by omega)), by omega, by omega, by omega⟩ (by omega) H locs ls hW (lv_sub hl [0, 1] rfl)
          exact hL72 _ 0 S19 ⟨rfl, hI19, fun kk ii hk => rfl, by omega, by omega, ⟨by omega, by omega⟩⟩ (by omega) H locs ls hW (lv_sub hl [0, 1] rfl)
        ·
          refine lv_aload_n hX0 hB0 dX12_number_59 rfl (lv_at hl 0 rfl) ?_
          refine lv_iconst (v := zI 1) hX0 hB0 dX12_number_60 rfl ?_
          refine lv_aload_n hX0 hB0 dX12_number_61 rfl (lv_at hl 0 rfl) ?_
          refine z_get (Cn := RX12) (T := TX12) (N := 37) CX hW (v := .int (zI (S19 0 6))) zMO_0 rfl (fun w h => List.mem_cons_of_mem _ (List.mem_append_right _ h)) 6 (by decide) (List.mem_of_getElem? (i := 1) rfl) rfl rfl dX12_number_62 ?_
          have hr62 := hI19.s6
          refine z_callv hW (va_runV (C := RX12) (As := [.int (zI 1), .int (zI (S19 0 6))]) (rest := []) CX.fix (zk_faults l o S19 1 (S19 0 6) hI19 (by constructor <;> omega) (by constructor <;> omega)) (cwV 2 CX.fix.2.2.2.2 gX12_number_X12_faults rfl rfl rfl (by decide +kernel) ⟨Nat.le_of_ble_eq_true rfl, Nat.le_of_ble_eq_true rfl⟩) (z_preV CX hW (r := (RX12, TX12, 37)) zMO_0 rfl) rfl rfl hl.1 rfl (lv_room (Nat.le_of_ble_eq_true rfl)) dX12_number_65 ⟨Nat.zero_le _, Nat.zero_le _⟩) (fun gn H locs hok hW => ?_)
          obtain ⟨hg, hI65, hf65, hq65⟩ := hok
          obtain ⟨S65, e65⟩ : ∃ q, zm_faults S19 1 (S19 0 6) = q := ⟨_, rfl⟩
          rw [e65] at hg hI65 hf65
          have t65_5 : S65 0 5 = S19 0 5 := hf65 0 5 (by omega)
          have t65_6 : S65 0 6 = S19 0 6 := hf65 0 6 (by omega)
          have t65_7 : S65 0 7 = S19 0 7 := hf65 0 7 (by omega)
          skip
          try rw [e65] at hq65
          rw [hg] at hW
          clear hg
          refine lv_lconst (v := zL 0) hX0 hB0 dX12_number_68 rfl ?_
          have hE : zm_number S = (0, S65) := by unfold zm_number; exact zlet_e e1 (zif_f c_4 (zlet_e e10 (zlet_e e19 (zlet_e e27 (zif_f c_30 (zlet_e e40 (zif_t c_43 (zlet_e e53 (zif_f c_56 (zlet_e e65 rfl))))))))))
          have hFr : ∀ kk ii : Nat, ¬ (kk = 0 ∧ ii = 6) ∧ ¬ (kk = 0 ∧ ii = 7) ∧ ¬ (kk = 0 ∧ ii = 8) ∧ ¬ (kk = 0 ∧ ii = 9) → S65 kk ii = S kk ii := fun kk ii hk => (((hf65 kk ii (by omega))).trans (show S19 kk ii = S10 kk ii from by rw [← e19]; exact za_ne (by omega))).trans (hf10 kk ii (by omega))
          rw [← hQ]
          exact z_lret (z := 0) CX hW (by rw [hE]; exact ⟨rfl, rfl, hI65, hFr, (show (S 0 6 ≤ S65 0 6 ∧ (S 0 6 ≤ S 0 5 → S65 0 6 ≤ S 0 5)) ∧ 0 ≤ (0 : Int) ∧ (0 : Int) ≤ 2147483647 ∧ (S 0 8 ≠ 0 → S65 0 8 ≠ 0) from by omega)⟩) dX12_number_69
  ·
    refine lv_lconst (v := zL 0) hX0 hB0 dX12_number_7 rfl ?_
    have hE : zm_number S = (0, S) := by unfold zm_number; exact zlet_e e1 (zif_t c_4 rfl)
    have hFr : ∀ kk ii : Nat, ¬ (kk = 0 ∧ ii = 6) ∧ ¬ (kk = 0 ∧ ii = 7) ∧ ¬ (kk = 0 ∧ ii = 8) ∧ ¬ (kk = 0 ∧ ii = 9) → S kk ii = S kk ii := fun kk ii hk => rfl
    rw [← hQ]
    exact z_lret (z := 0) CX hW (by rw [hE]; exact ⟨rfl, rfl, hI, hFr, (show (S 0 6 ≤ S 0 6 ∧ (S 0 6 ≤ S 0 5 → S 0 6 ≤ S 0 5)) ∧ 0 ≤ (0 : Int) ∧ (0 : Int) ≤ 2147483647 ∧ (S 0 8 ≠ 0 → S 0 8 ≠ 0) from by omega)⟩) dX12_number_8
end ZMg
