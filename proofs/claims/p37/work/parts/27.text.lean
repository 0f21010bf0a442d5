section ZTx4
/-- an ATOM -/
def zra1 (stt : Int) (q : Int × (Nat → Nat → Int)) : Int × (Nat → Nat → Int) := if q.1 < 0 then (0, zfl 2 stt (zset q.2 4 (zone (q.1 % q.2 0 3)))) else (1, zset q.2 4 (zone (q.1 % q.2 0 3)))
def zra2 (ix : Int) (S : Nat → Nat → Int) : Nat → Nat → Int := zsr (zset S 4 (zput (zone 0) (if ix = 0 then 0 else 1) (if ix = 0 then 1 else 0) 1)) (S 0 0 + 1) (S 0 1) (S 0 2)
def zra (n : Int) (T : Nat → Int) (S : Nat → Nat → Int) : Int × (Nat → Nat → Int) :=
  if zdig (zby n T (S 0 0)) = 0 then (if zwd n T 2 (S 0 0) = 0 ∧ zwd n T 3 (S 0 0) = 0 then (0, zfl 1 (S 0 0) S) else (1, zra2 (zwd n T 2 (S 0 0)) S)) else zra1 (S 0 0) (zrn n T S)
theorem zra_01 (n : Int) (T : Nat → Int) (S : Nat → Nat → Int) : (zra n T S).1 = 0 ∨ (zra n T S).1 = 1 := by
  unfold zra
  split
  · split
    · exact Or.inl rfl
    · exact Or.inr rfl
  · unfold zra1
    split
    · exact Or.inl rfl
    · exact Or.inr rfl
theorem zra_k (n : Int) (T : Nat → Int) (S : Nat → Nat → Int) {k : Nat} (h0 : k ≠ 0) (h4 : k ≠ 4) : (zra n T S).2 k = S k := by
  unfold zra
  split
  · split
    · exact zfl_k h0
    · show zra2 _ S k = S k
      unfold zra2
      rw [zsr_ne h0, zset_ne _ _ h4]
  · unfold zra1
    split
    · show zfl 2 _ (zset (zrn n T S).2 4 _) k = S k
      rw [zfl_k h0, zset_ne _ _ h4, zrn_k _ _ _ h0]
    · show zset (zrn n T S).2 4 _ k = S k
      rw [zset_ne _ _ h4, zrn_k _ _ _ h0]
theorem zra_num (n : Int) (T : Nat → Int) (S : Nat → Nat → Int) {i : Nat} (h : i = 3 ∨ i = 4) : (zra n T S).2 0 i = S 0 i := by
  unfold zra
  split
  · split
    · rcases h with e | e <;> subst e <;> rfl
    · rcases h with e | e <;> subst e <;> rfl
  · unfold zra1
    split
    · rcases h with e | e <;> subst e <;> rfl
    · rcases h with e | e <;> subst e <;> rfl
theorem zwd_pl {n : Int} {T : Nat → Int} {i : Nat} {a : Int} (hi : i < 4) (ha : 0 ≤ a ∧ a ≤ n) (h : ¬ zwd n T i a = 0) : a + zlen i ≤ n := by
  have h1 := zwd_len h
  have h2 := zwe_rng (T := T) ha
  omega
theorem zra_pl {n : Int} {T : Nat → Int} {S : Nat → Nat → Int} (h : 0 ≤ S 0 0 ∧ S 0 0 ≤ n) : S 0 0 ≤ (zra n T S).2 0 0 ∧ (zra n T S).2 0 0 ≤ n := by
  unfold zra
  split
  · split
    · exact ⟨Int.le_refl _, h.2⟩
    · rename_i hw
      show S 0 0 ≤ S 0 0 + 1 ∧ S 0 0 + 1 ≤ n
      by_cases h2 : zwd n T 2 (S 0 0) = 0
      · have h3 : ¬ zwd n T 3 (S 0 0) = 0 := fun q => hw ⟨h2, q⟩
        have := zwd_pl (by decide) h h3
        have : zlen 3 = 1 := rfl
        omega
      · have := zwd_pl (by decide) h h2
        have : zlen 2 = 1 := rfl
        omega
  · have := zrnA_rng (T := T) h
    unfold zra1
    split
    · show S 0 0 ≤ (zrnA n T (S 0 0)).1 ∧ (zrnA n T (S 0 0)).1 ≤ n
      omega
    · show S 0 0 ≤ (zrnA n T (S 0 0)).1 ∧ (zrnA n T (S 0 0)).1 ≤ n
      omega
theorem zra_can {n : Int} {T : Nat → Int} {S : Nat → Nat → Int} (hp : 2 ≤ S 0 3) (h1 : (zra n T S).1 = 1) : zcan (S 0 3) ((zra n T S).2 4) := by
  unfold zra at h1 ⊢
  split
  · rename_i hd
    rw [if_pos hd] at h1
    split
    · rename_i hw
      rw [if_pos hw] at h1
      cases h1
    · show zcan (S 0 3) (zra2 _ S 4)
      unfold zra2
      rw [zsr_ne (by decide), zset_self]
      exact zcan_put (zone_can (by omega) (by omega)) _ _ (by omega)
  · unfold zra1
    split
    · show zcan (S 0 3) (zfl 2 (S 0 0) (zset (zrn n T S).2 4 (zone ((zrn n T S).1 % S 0 3))) 4)
      rw [zfl_k (by decide), zset_self]
      exact zone_can (by omega) (zmr _ (by omega))
    · show zcan (S 0 3) (zset (zrn n T S).2 4 (zone ((zrn n T S).1 % S 0 3)) 4)
      rw [zset_self]
      exact zone_can (by omega) (zmr _ (by omega))
set_option maxRecDepth 100000 in
set_option maxHeartbeats 4000000 in
/-- Reader.readAtom -/
theorem c_readAtom (l : Launch) {D : va_G} {cI cJ cZ cP cS cM : ClassId} {L : List Nat} {sz : Nat} {f : Nat → va_E} (r : Nat) (n : Int) (T : Nat → Int) (S : Nat → Nat → Int) (hT : ztape n T) (hpl : 0 ≤ S 0 0 ∧ S 0 0 ≤ n) (h3 : 2 ≤ S 0 3 ∧ S 0 3 ≤ 31) : zMi l yX3_readAtom wsX3_readAtom 5 107 D (zT cI cJ cZ cP cS cM) L sz (zRO cI cP cZ r n T S f) [.ref r] (fun z g => z = (zra n T S).1 ∧ g = zRO cI cP cZ r n T (zra n T S).2 f) := by
  refine zWalk.met (nL := 3) (ret := (some .boolean)) (cc := cX3_readAtom) (by decide) rfl (Nat.le_of_ble_eq_true rfl) ?_
  intro pg en st mi ag bl mt cd ls CX hW hl
  have CX : zC pg st mi ag mt cd cX3_readAtom 3 (some .boolean) RX3 wsX3_readAtom := CX
  generalize hQ : MQ bl _ ag st 0 0 _ = Q
  have hX0 := CX.1
  have hB0 := CX.2.1
  have hl : lv_has ls 3 [(0, .ref r)] := hl
  obtain ⟨H, eH⟩ : ∃ H, H = st.heap := ⟨_, rfl⟩
  obtain ⟨locs, eL⟩ : ∃ L : List Loc, L = [] := ⟨_, rfl⟩
  have hW : zW D (zT cI cJ cZ cP cS cM) L (zQ L sz) st (zRO cI cP cZ r n T S f) st.heap H locs := by rw [eH, eL]; exact hW
  suffices hgo : W pg l en ({ frames := 5, cells := 0, slots := 0, locals := 107 } : Room) st mi ag bl mt cd H locs 0 0 Q (F0 mi 0 ls []) by rw [eH, eL] at hgo; exact hgo
  clear eH eL
  have hn0 := hT.1
  have hn1 := hT.2.1
  refine lv_aload_n hX0 hB0 dX3_readAtom_0 rfl (lv_at hl 0 rfl) ?_
  refine z_get (Cn := RX3) (T := TX3) (N := 13) CX hW (v := .int (zI (S 0 0))) zRO_0 rfl (fun w h => List.mem_cons_of_mem _ (List.mem_append_left _ (List.mem_append_left _ (List.mem_append_left _ (List.mem_append_right _ h))))) 12 (by decide) (List.mem_of_getElem? (i := 1) rfl) rfl rfl dX3_readAtom_1 ?_
  refine lv_istore_n (lv' := [(1, .int (zI (S 0 0))), (0, .ref r)]) hX0 hB0 dX3_readAtom_4 rfl hl (by decide) rfl (fun ls hl => ?_)
  refine lv_aload_n hX0 hB0 dX3_readAtom_5 rfl (lv_at hl 1 rfl) ?_
  refine lv_iload_n hX0 hB0 dX3_readAtom_6 rfl (lv_at hl 0 rfl) ?_
  refine z_calli hW (va_runV (C := RX3) (As := [.int (zI (S 0 0))]) (rest := []) CX.fix (c_byteAt l (f := f) r n T S (S 0 0) hT (by constructor <;> omega)) (cwV 1 CX.fix.2.2.2.2 gX3_readAtom_X3_byteAt rfl rfl rfl (by decide +kernel) ⟨Nat.le_of_ble_eq_true rfl, Nat.le_of_ble_eq_true rfl⟩) (z_preV CX hW (r := (RX3, TX3, 13)) zRO_0 rfl) rfl rfl hl.1 rfl (lv_room (Nat.le_of_ble_eq_true rfl)) dX3_readAtom_7 ⟨Nat.zero_le _, Nat.zero_le _⟩) (fun zv gn H locs hok7 hW => ?_)
  obtain ⟨ez, eg⟩ := hok7
  have eg : gn = zRO cI cP cZ r n T S f := eg
  rw [eg] at hW
  clear eg
  have ez : zv = zby n T (S 0 0) := ez
  rw [ez]
  clear ez
  have hby7 := zby_rng hT (S 0 0)
  refine z_calli hW (va_runS (As := [.int (zI (zby n T (S 0 0)))]) (rest := []) CX.fix (c_isDigit l (f := zRO cI cP cZ r n T S f) (zby n T (S 0 0)) (by constructor <;> omega)) (va_cwS 1 CX.fix.2.2.2.2 gX3_readAtom_X3_isDigit rfl rfl rfl (by decide +kernel) ⟨Nat.le_of_ble_eq_true rfl, Nat.le_of_ble_eq_true rfl⟩) (z_preS CX hW) rfl rfl hl.1 rfl (lv_room (Nat.le_of_ble_eq_true rfl)) dX3_readAtom_10 ⟨Nat.zero_le _, Nat.zero_le _⟩) (fun zv gn H locs hok10 hW => ?_)
  obtain ⟨ez, eg⟩ := hok10
  have eg : gn = zRO cI cP cZ r n T S f := eg
  rw [eg] at hW
  clear eg
  have ez : zv = zdig (zby n T (S 0 0)) := ez
  rw [ez]
  clear ez
  have hdg10 := zdig_01 (zby n T (S 0 0))
  refine z_if_eq (tgt := 58) CX dX3_readAtom_13 (by decide) (by constructor <;> omega) (fun c_13 => ?_) (fun c_13 => ?_)
  ·
    refine lv_aload_n hX0 hB0 dX3_readAtom_58 rfl (lv_at hl 1 rfl) ?_
    refine z_ldcs CX hW 2 (by decide) rfl dX3_readAtom_59 ?_
    refine z_calli hW (va_runV (C := RX3) (As := [.ref (D.2 98 2)]) (rest := []) CX.fix (c_standsWord l (f := f) r n T S 2 hT (by omega) (by decide)) (cwV 1 CX.fix.2.2.2.2 gX3_readAtom_X3_standsWord rfl rfl rfl (by decide +kernel) ⟨Nat.le_of_ble_eq_true rfl, Nat.le_of_ble_eq_true rfl⟩) (z_preV CX hW (r := (RX3, TX3, 13)) zRO_0 rfl) rfl rfl hl.1 rfl (lv_room (Nat.le_of_ble_eq_true rfl)) dX3_readAtom_61 ⟨Nat.zero_le _, Nat.zero_le _⟩) (fun zv gn H locs hok61 hW => ?_)
    obtain ⟨ez, eg⟩ := hok61
    have eg : gn = zRO cI cP cZ r n T S f := eg
    rw [eg] at hW
    clear eg
    have ez : zv = zwd n T 2 (S 0 0) := ez
    rw [ez]
    clear ez
    have hwd61 := zwd_01 n T 2 (S 0 0)
    
    refine lv_istore_n (lv' := [(2, .int (zI (zwd n T 2 (S 0 0)))), (1, .int (zI (S 0 0))), (0, .ref r)]) hX0 hB0 dX3_readAtom_64 rfl hl (by decide) rfl (fun ls hl => ?_)
    refine lv_iload_n hX0 hB0 dX3_readAtom_65 rfl (lv_at hl 0 rfl) ?_
    refine z_if_ne (tgt := 85) CX dX3_readAtom_66 (by decide) (by constructor <;> omega) (fun c_66 => ?_) (fun c_66 => ?_)
    ·
      refine lv_aload_n hX0 hB0 dX3_readAtom_85 rfl (lv_at hl 2 rfl) ?_
      refine z_get (Cn := RX3) (T := TX3) (N := 13) CX hW (v := .ref (r + 21)) zRO_0 rfl (fun w h => List.mem_cons_of_mem _ (List.mem_append_left _ (List.mem_append_left _ (List.mem_append_left _ (List.mem_append_right _ h))))) 9 (by decide) (List.mem_of_getElem? (i := 2) rfl) rfl rfl dX3_readAtom_86 ?_
      refine lv_iconst (v := zI 0) hX0 hB0 dX3_readAtom_89 rfl ?_
      refine z_callv hW (va_runV (C := RX2) (As := [.int (zI 0)]) (rest := []) CX.fix (c_setTo l (f := zRO cI cP cZ r n T S f) (r + 21) (r + 22) (S 4) 0 zRO_21 zRO_22) (cwV 1 CX.fix.2.2.2.2 gX3_readAtom_X2_setTo rfl rfl rfl (by decide +kernel) ⟨Nat.le_of_ble_eq_true rfl, Nat.le_of_ble_eq_true rfl⟩) (z_preV CX hW (r := (RX2, TX2, 1)) zRO_21 rfl) rfl rfl hl.1 rfl (lv_room (Nat.le_of_ble_eq_true rfl)) dX3_readAtom_90 ⟨Nat.zero_le _, Nat.zero_le _⟩) (fun gn H locs hok90 hW => ?_)
      have eg : gn = va_up (zRO cI cP cZ r n T S f) (r + 22) (zA cI 25 (zone 0)) := hok90
      rw [eg] at hW
      clear eg
      refine lv_aload_n hX0 hB0 dX3_readAtom_93 rfl (lv_at hl 2 rfl) ?_
      refine z_get (Cn := RX3) (T := TX3) (N := 13) CX hW (v := .ref (r + 21)) ((va_up_ne _ _ (by omega)).trans zRO_0) rfl (fun w h => List.mem_cons_of_mem _ (List.mem_append_left _ (List.mem_append_left _ (List.mem_append_left _ (List.mem_append_right _ h))))) 9 (by decide) (List.mem_of_getElem? (i := 2) rfl) rfl rfl dX3_readAtom_94 ?_
      refine lv_iload_n hX0 hB0 dX3_readAtom_97 rfl (lv_at hl 0 rfl) ?_
      refine z_if_eq (tgt := 105) CX dX3_readAtom_98 (by decide) (by constructor <;> omega) (fun c_98 => ?_) (fun c_98 => ?_)
      ·
        refine lv_iconst (v := zI 0) hX0 hB0 dX3_readAtom_105 rfl ?_
        refine lv_iload_n hX0 hB0 dX3_readAtom_106 rfl (lv_at hl 0 rfl) ?_
        refine z_if_eq (tgt := 114) CX dX3_readAtom_107 (by decide) (by constructor <;> omega) (fun c_107 => ?_) (fun c_107 => ?_)
        ·
          refine lv_iconst (v := zI 1) hX0 hB0 dX3_readAtom_114 rfl ?_
          refine lv_iconst (v := zI 1) hX0 hB0 dX3_readAtom_115 rfl ?_
          refine z_callv hW (va_runV (C := RX2) (As := [.int (zI 0), .int (zI 1), .int (zI 1)]) (rest := []) CX.fix (c_put l (f := va_up (zRO cI cP cZ r n T S f) (r + 22) (zA cI 25 (zone 0))) (r + 21) (r + 22) (zone 0) 0 1 1 ((va_up_ne _ _ (by omega)).trans zRO_21) (va_up_self _ _ _) (by constructor <;> omega) (by constructor <;> omega)) (cwV 3 CX.fix.2.2.2.2 gX3_readAtom_X2_put rfl rfl rfl (by decide +kernel) ⟨Nat.le_of_ble_eq_true rfl, Nat.le_of_ble_eq_true rfl⟩) (z_preV CX hW (r := (RX2, TX2, 1)) ((va_up_ne _ _ (by omega)).trans zRO_21) rfl) rfl rfl hl.1 rfl (lv_room (Nat.le_of_ble_eq_true rfl)) dX3_readAtom_116 ⟨Nat.zero_le _, Nat.zero_le _⟩) (fun gn H locs hok116 hW => ?_)
          have eg : gn = va_up (zRO cI cP cZ r n T S f) (r + 22) (zA cI 25 (zput (zone 0) 0 1 1)) := (hok116).trans va_up_up
          rw [eg] at hW
          clear eg
          refine lv_aload_n hX0 hB0 dX3_readAtom_119 rfl (lv_at hl 2 rfl) ?_
          refine lv_dup hX0 hB0 dX3_readAtom_120 rfl ?_
          refine z_get (Cn := RX3) (T := TX3) (N := 13) CX hW (v := .int (zI (S 0 0))) ((va_up_ne _ _ (by omega)).trans zRO_0) rfl (fun w h => List.mem_cons_of_mem _ (List.mem_append_left _ (List.mem_append_left _ (List.mem_append_left _ (List.mem_append_right _ h))))) 12 (by decide) (List.mem_of_getElem? (i := 1) rfl) rfl rfl dX3_readAtom_121 ?_
          refine lv_iconst (v := zI 1) hX0 hB0 dX3_readAtom_124 rfl ?_
          refine z_iadd (z := (S 0 0) + 1) CX dX3_readAtom_125 rfl ?_
          refine z_put (Cn := RX3) (T := TX3) (N := 13) CX hW (v := .int (zI ((S 0 0) + 1))) ((va_up_ne _ _ (by omega)).trans zRO_0) rfl (fun w h => List.mem_cons_of_mem _ (List.mem_append_left _ (List.mem_append_left _ (List.mem_append_left _ (List.mem_append_right _ h))))) tyX3 tyX3_ok nmX3 12 (by decide) (List.mem_of_getElem? (i := 1) rfl) rfl rfl rfl rfl (Nat.le_of_ble_eq_true rfl) (g := va_up (va_up (zRO cI cP cZ r n T S f) (r + 22) (zA cI 25 (zput (zone 0) 0 1 1))) r (.inr (3, [.int (zI n), .int (zI (S 0 1)), .int (zI (S 0 2)), .ref (r + 1), .ref (r + 16), .ref (r + 17), .ref (r + 18), .ref (r + 19), .ref (r + 20), .ref (r + 21), .ref (r + 23), .ref (r + 25), .int (zI ((S 0 0) + 1))]))) rfl dX3_readAtom_126 (fun H locs hW => ?_)
          refine lv_iconst (v := zI 1) hX0 hB0 dX3_readAtom_129 rfl ?_
          have hW := hW
          rw [zRO_w22] at hW
          rw [zRO_wr] at hW
          obtain ⟨S1, hS1⟩ : ∃ q : Nat → Nat → Int, q = zsr (zset S 4 (zput (zone 0) 0 1 1)) ((S 0 0) + 1) (S 0 1) (S 0 2) := ⟨_, rfl⟩
          rw [← hS1] at hW
          have hS1_0 : S1 0 0 = (S 0 0) + 1 := by rw [hS1]; first | rfl | (simp [zsr, zsd, zset]; done) | ((repeat rw [zset_ne _ _ (by omega)]); first | done | rfl | (simp [zsr, zsd, zset]; done)) | (unfold zsd; (repeat (first | rw [zset_self] | rw [zset_ne _ _ (by omega)])); first | done | rfl | (simp; done))
          have hS1_1 : S1 0 1 = S 0 1 := by rw [hS1]; first | rfl | (simp [zsr, zsd, zset]; done) | ((repeat rw [zset_ne _ _ (by omega)]); first | done | rfl | (simp [zsr, zsd, zset]; done)) | (unfold zsd; (repeat (first | rw [zset_self] | rw [zset_ne _ _ (by omega)])); first | done | rfl | (simp; done))
          have hS1_2 : S1 0 2 = S 0 2 := by rw [hS1]; first | rfl | (simp [zsr, zsd, zset]; done) | ((repeat rw [zset_ne _ _ (by omega)]); first | done | rfl | (simp [zsr, zsd, zset]; done)) | (unfold zsd; (repeat (first | rw [zset_self] | rw [zset_ne _ _ (by omega)])); first | done | rfl | (simp; done))
          have hS1_3 : S1 0 3 = S 0 3 := by rw [hS1]; first | rfl | (simp [zsr, zsd, zset]; done) | ((repeat rw [zset_ne _ _ (by omega)]); first | done | rfl | (simp [zsr, zsd, zset]; done)) | (unfold zsd; (repeat (first | rw [zset_self] | rw [zset_ne _ _ (by omega)])); first | done | rfl | (simp; done))
          have hS1_4 : S1 0 4 = S 0 4 := by rw [hS1]; first | rfl | (simp [zsr, zsd, zset]; done) | ((repeat rw [zset_ne _ _ (by omega)]); first | done | rfl | (simp [zsr, zsd, zset]; done)) | (unfold zsd; (repeat (first | rw [zset_self] | rw [zset_ne _ _ (by omega)])); first | done | rfl | (simp; done))
          skip
          rw [← hQ]
          refine z_iret (z := 1) CX hW ?_ rfl dX3_readAtom_130
          have hq : zra n T S = (1, S1) := by unfold zra; rw [if_pos c_13, if_neg (by omega)]; unfold zra2; rw [if_pos (show zwd n T 2 (S 0 0) = 0 by omega), if_pos (show zwd n T 2 (S 0 0) = 0 by omega), hS1]
          rw [hq]
          exact ⟨rfl, rfl⟩
        ·
          omega
      ·
        refine lv_iconst (v := zI 1) hX0 hB0 dX3_readAtom_101 rfl ?_
        refine lv_goto (tgt := 106) hX0 hB0 dX3_readAtom_102 (by decide) ?_
        refine lv_iload_n hX0 hB0 dX3_readAtom_106 rfl (lv_at hl 0 rfl) ?_
        refine z_if_eq (tgt := 114) CX dX3_readAtom_107 (by decide) (by constructor <;> omega) (fun c_107 => ?_) (fun c_107 => ?_)
        ·
          omega
        ·
          refine lv_iconst (v := zI 0) hX0 hB0 dX3_readAtom_110 rfl ?_
          refine lv_goto (tgt := 115) hX0 hB0 dX3_readAtom_111 (by decide) ?_
          refine lv_iconst (v := zI 1) hX0 hB0 dX3_readAtom_115 rfl ?_
          refine z_callv hW (va_runV (C := RX2) (As := [.int (zI 1), .int (zI 0), .int (zI 1)]) (rest := []) CX.fix (c_put l (f := va_up (zRO cI cP cZ r n T S f) (r + 22) (zA cI 25 (zone 0))) (r + 21) (r + 22) (zone 0) 1 0 1 ((va_up_ne _ _ (by omega)).trans zRO_21) (va_up_self _ _ _) (by constructor <;> omega) (by constructor <;> omega)) (cwV 3 CX.fix.2.2.2.2 gX3_readAtom_X2_put rfl rfl rfl (by decide +kernel) ⟨Nat.le_of_ble_eq_true rfl, Nat.le_of_ble_eq_true rfl⟩) (z_preV CX hW (r := (RX2, TX2, 1)) ((va_up_ne _ _ (by omega)).trans zRO_21) rfl) rfl rfl hl.1 rfl (lv_room (Nat.le_of_ble_eq_true rfl)) dX3_readAtom_116 ⟨Nat.zero_le _, Nat.zero_le _⟩) (fun gn H locs hok116 hW => ?_)
          have eg : gn = va_up (zRO cI cP cZ r n T S f) (r + 22) (zA cI 25 (zput (zone 0) 1 0 1)) := (hok116).trans va_up_up
          rw [eg] at hW
          clear eg
          refine lv_aload_n hX0 hB0 dX3_readAtom_119 rfl (lv_at hl 2 rfl) ?_
          refine lv_dup hX0 hB0 dX3_readAtom_120 rfl ?_
          refine z_get (Cn := RX3) (T := TX3) (N := 13) CX hW (v := .int (zI (S 0 0))) ((va_up_ne _ _ (by omega)).trans zRO_0) rfl (fun w h => List.mem_cons_of_mem _ (List.mem_append_left _ (List.mem_append_left _ (List.mem_append_left _ (List.mem_append_right _ h))))) 12 (by decide) (List.mem_of_getElem? (i := 1) rfl) rfl rfl dX3_readAtom_121 ?_
          refine lv_iconst (v := zI 1) hX0 hB0 dX3_readAtom_124 rfl ?_
          refine z_iadd (z := (S 0 0) + 1) CX dX3_readAtom_125 rfl ?_
          refine z_put (Cn := RX3) (T := TX3) (N := 13) CX hW (v := .int (zI ((S 0 0) + 1))) ((va_up_ne _ _ (by omega)).trans zRO_0) rfl (fun w h => List.mem_cons_of_mem _ (List.mem_append_left _ (List.mem_append_left _ (List.mem_append_left _ (List.mem_append_right _ h))))) tyX3 tyX3_ok nmX3 12 (by decide) (List.mem_of_getElem? (i := 1) rfl) rfl rfl rfl rfl (Nat.le_of_ble_eq_true rfl) (g := va_up (va_up (zRO cI cP cZ r n T S f) (r + 22) (zA cI 25 (zput (zone 0) 1 0 1))) r (.inr (3, [.int (zI n), .int (zI (S 0 1)), .int (zI (S 0 2)), .ref (r + 1), .ref (r + 16), .ref (r + 17), .ref (r + 18), .ref (r + 19), .ref (r + 20), .ref (r + 21), .ref (r + 23), .ref (r + 25), .int (zI ((S 0 0) + 1))]))) rfl dX3_readAtom_126 (fun H locs hW => ?_)
          refine lv_iconst (v := zI 1) hX0 hB0 dX3_readAtom_129 rfl ?_
          have hW := hW
          rw [zRO_w22] at hW
          rw [zRO_wr] at hW
          obtain ⟨S2, hS2⟩ : ∃ q : Nat → Nat → Int, q = zsr (zset S 4 (zput (zone 0) 1 0 1)) ((S 0 0) + 1) (S 0 1) (S 0 2) := ⟨_, rfl⟩
          rw [← hS2] at hW
          have hS2_0 : S2 0 0 = (S 0 0) + 1 := by rw [hS2]; first | rfl | (simp [zsr, zsd, zset]; done) | ((repeat rw [zset_ne _ _ (by omega)]); first | done | rfl | (simp [zsr, zsd, zset]; done)) | (unfold zsd; (repeat (first | rw [zset_self] | rw [zset_ne _ _ (by omega)])); first | done | rfl | (simp; done))
          have hS2_1 : S2 0 1 = S 0 1 := by rw [hS2]; first | rfl | (simp [zsr, zsd, zset]; done) | ((repeat rw [zset_ne _ _ (by omega)]); first | done | rfl | (simp [zsr, zsd, zset]; done)) | (unfold zsd; (repeat (first | rw [zset_self] | rw [zset_ne _ _ (by omega)])); first | done | rfl | (simp; done))
          have hS2_2 : S2 0 2 = S 0 2 := by rw [hS2]; first | rfl | (simp [zsr, zsd, zset]; done) | ((repeat rw [zset_ne _ _ (by omega)]); first | done | rfl | (simp [zsr, zsd, zset]; done)) | (unfold zsd; (repeat (first | rw [zset_self] | rw [zset_ne _ _ (by omega)])); first | done | rfl | (simp; done))
          have hS2_3 : S2 0 3 = S 0 3 := by rw [hS2]; first | rfl | (simp [zsr, zsd, zset]; done) | ((repeat rw [zset_ne _ _ (by omega)]); first | done | rfl | (simp [zsr, zsd, zset]; done)) | (unfold zsd; (repeat (first | rw [zset_self] | rw [zset_ne _ _ (by omega)])); first | done | rfl | (simp; done))
          have hS2_4 : S2 0 4 = S 0 4 := by rw [hS2]; first | rfl | (simp [zsr, zsd, zset]; done) | ((repeat rw [zset_ne _ _ (by omega)]); first | done | rfl | (simp [zsr, zsd, zset]; done)) | (unfold zsd; (repeat (first | rw [zset_self] | rw [zset_ne _ _ (by omega)])); first | done | rfl | (simp; done))
          skip
          rw [← hQ]
          refine z_iret (z := 1) CX hW ?_ rfl dX3_readAtom_130
          have hq : zra n T S = (1, S2) := by unfold zra; rw [if_pos c_13, if_neg (by omega)]; unfold zra2; rw [if_neg (show ¬ zwd n T 2 (S 0 0) = 0 by omega), if_neg (show ¬ zwd n T 2 (S 0 0) = 0 by omega), hS2]
          rw [hq]
          exact ⟨rfl, rfl⟩
    ·
      refine lv_aload_n hX0 hB0 dX3_readAtom_69 rfl (lv_at hl 2 rfl) ?_
      refine z_ldcs CX hW 3 (by decide) rfl dX3_readAtom_70 ?_
      refine z_calli hW (va_runV (C := RX3) (As := [.ref (D.2 98 3)]) (rest := []) CX.fix (c_standsWord l (f := f) r n T S 3 hT (by omega) (by decide)) (cwV 1 CX.fix.2.2.2.2 gX3_readAtom_X3_standsWord rfl rfl rfl (by decide +kernel) ⟨Nat.le_of_ble_eq_true rfl, Nat.le_of_ble_eq_true rfl⟩) (z_preV CX hW (r := (RX3, TX3, 13)) zRO_0 rfl) rfl rfl hl.1 rfl (lv_room (Nat.le_of_ble_eq_true rfl)) dX3_readAtom_72 ⟨Nat.zero_le _, Nat.zero_le _⟩) (fun zv gn H locs hok72 hW => ?_)
      obtain ⟨ez, eg⟩ := hok72
      have eg : gn = zRO cI cP cZ r n T S f := eg
      rw [eg] at hW
      clear eg
      have ez : zv = zwd n T 3 (S 0 0) := ez
      rw [ez]
      clear ez
      have hwd72 := zwd_01 n T 3 (S 0 0)
      refine z_if_ne (tgt := 85) CX dX3_readAtom_75 (by decide) (by constructor <;> omega) (fun c_75 => ?_) (fun c_75 => ?_)
      ·
        refine lv_aload_n hX0 hB0 dX3_readAtom_85 rfl (lv_at hl 2 rfl) ?_
        refine z_get (Cn := RX3) (T := TX3) (N := 13) CX hW (v := .ref (r + 21)) zRO_0 rfl (fun w h => List.mem_cons_of_mem _ (List.mem_append_left _ (List.mem_append_left _ (List.mem_append_left _ (List.mem_append_right _ h))))) 9 (by decide) (List.mem_of_getElem? (i := 2) rfl) rfl rfl dX3_readAtom_86 ?_
        refine lv_iconst (v := zI 0) hX0 hB0 dX3_readAtom_89 rfl ?_
        refine z_callv hW (va_runV (C := RX2) (As := [.int (zI 0)]) (rest := []) CX.fix (c_setTo l (f := zRO cI cP cZ r n T S f) (r + 21) (r + 22) (S 4) 0 zRO_21 zRO_22) (cwV 1 CX.fix.2.2.2.2 gX3_readAtom_X2_setTo rfl rfl rfl (by decide +kernel) ⟨Nat.le_of_ble_eq_true rfl, Nat.le_of_ble_eq_true rfl⟩) (z_preV CX hW (r := (RX2, TX2, 1)) zRO_21 rfl) rfl rfl hl.1 rfl (lv_room (Nat.le_of_ble_eq_true rfl)) dX3_readAtom_90 ⟨Nat.zero_le _, Nat.zero_le _⟩) (fun gn H locs hok90 hW => ?_)
        have eg : gn = va_up (zRO cI cP cZ r n T S f) (r + 22) (zA cI 25 (zone 0)) := hok90
        rw [eg] at hW
        clear eg
        refine lv_aload_n hX0 hB0 dX3_readAtom_93 rfl (lv_at hl 2 rfl) ?_
        refine z_get (Cn := RX3) (T := TX3) (N := 13) CX hW (v := .ref (r + 21)) ((va_up_ne _ _ (by omega)).trans zRO_0) rfl (fun w h => List.mem_cons_of_mem _ (List.mem_append_left _ (List.mem_append_left _ (List.mem_append_left _ (List.mem_append_right _ h))))) 9 (by decide) (List.mem_of_getElem? (i := 2) rfl) rfl rfl dX3_readAtom_94 ?_
        refine lv_iload_n hX0 hB0 dX3_readAtom_97 rfl (lv_at hl 0 rfl) ?_
        refine z_if_eq (tgt := 105) CX dX3_readAtom_98 (by decide) (by constructor <;> omega) (fun c_98 => ?_) (fun c_98 => ?_)
        ·
          refine lv_iconst (v := zI 0) hX0 hB0 dX3_readAtom_105 rfl ?_
          refine lv_iload_n hX0 hB0 dX3_readAtom_106 rfl (lv_at hl 0 rfl) ?_
          refine z_if_eq (tgt := 114) CX dX3_readAtom_107 (by decide) (by constructor <;> omega) (fun c_107 => ?_) (fun c_107 => ?_)
          ·
            refine lv_iconst (v := zI 1) hX0 hB0 dX3_readAtom_114 rfl ?_
            refine lv_iconst (v := zI 1) hX0 hB0 dX3_readAtom_115 rfl ?_
            refine z_callv hW (va_runV (C := RX2) (As := [.int (zI 0), .int (zI 1), .int (zI 1)]) (rest := []) CX.fix (c_put l (f := va_up (zRO cI cP cZ r n T S f) (r + 22) (zA cI 25 (zone 0))) (r + 21) (r + 22) (zone 0) 0 1 1 ((va_up_ne _ _ (by omega)).trans zRO_21) (va_up_self _ _ _) (by constructor <;> omega) (by constructor <;> omega)) (cwV 3 CX.fix.2.2.2.2 gX3_readAtom_X2_put rfl rfl rfl (by decide +kernel) ⟨Nat.le_of_ble_eq_true rfl, Nat.le_of_ble_eq_true rfl⟩) (z_preV CX hW (r := (RX2, TX2, 1)) ((va_up_ne _ _ (by omega)).trans zRO_21) rfl) rfl rfl hl.1 rfl (lv_room (Nat.le_of_ble_eq_true rfl)) dX3_readAtom_116 ⟨Nat.zero_le _, Nat.zero_le _⟩) (fun gn H locs hok116 hW => ?_)
            have eg : gn = va_up (zRO cI cP cZ r n T S f) (r + 22) (zA cI 25 (zput (zone 0) 0 1 1)) := (hok116).trans va_up_up
            rw [eg] at hW
            clear eg
            refine lv_aload_n hX0 hB0 dX3_readAtom_119 rfl (lv_at hl 2 rfl) ?_
            refine lv_dup hX0 hB0 dX3_readAtom_120 rfl ?_
            refine z_get (Cn := RX3) (T := TX3) (N := 13) CX hW (v := .int (zI (S 0 0))) ((va_up_ne _ _ (by omega)).trans zRO_0) rfl (fun w h => List.mem_cons_of_mem _ (List.mem_append_left _ (List.mem_append_left _ (List.mem_append_left _ (List.mem_append_right _ h))))) 12 (by decide) (List.mem_of_getElem? (i := 1) rfl) rfl rfl dX3_readAtom_121 ?_
            refine lv_iconst (v := zI 1) hX0 hB0 dX3_readAtom_124 rfl ?_
            refine z_iadd (z := (S 0 0) + 1) CX dX3_readAtom_125 rfl ?_
            refine z_put (Cn := RX3) (T := TX3) (N := 13) CX hW (v := .int (zI ((S 0 0) + 1))) ((va_up_ne _ _ (by omega)).trans zRO_0) rfl (fun w h => List.mem_cons_of_mem _ (List.mem_append_left _ (List.mem_append_left _ (List.mem_append_left _ (List.mem_append_right _ h))))) tyX3 tyX3_ok nmX3 12 (by decide) (List.mem_of_getElem? (i := 1) rfl) rfl rfl rfl rfl (Nat.le_of_ble_eq_true rfl) (g := va_up (va_up (zRO cI cP cZ r n T S f) (r + 22) (zA cI 25 (zput (zone 0) 0 1 1))) r (.inr (3, [.int (zI n), .int (zI (S 0 1)), .int (zI (S 0 2)), .ref (r + 1), .ref (r + 16), .ref (r + 17), .ref (r + 18), .ref (r + 19), .ref (r + 20), .ref (r + 21), .ref (r + 23), .ref (r + 25), .int (zI ((S 0 0) + 1))]))) rfl dX3_readAtom_126 (fun H locs hW => ?_)
            refine lv_iconst (v := zI 1) hX0 hB0 dX3_readAtom_129 rfl ?_
            have hW := hW
            rw [zRO_w22] at hW
            rw [zRO_wr] at hW
            obtain ⟨S3, hS3⟩ : ∃ q : Nat → Nat → Int, q = zsr (zset S 4 (zput (zone 0) 0 1 1)) ((S 0 0) + 1) (S 0 1) (S 0 2) := ⟨_, rfl⟩
            rw [← hS3] at hW
            have hS3_0 : S3 0 0 = (S 0 0) + 1 := by rw [hS3]; first | rfl | (simp [zsr, zsd, zset]; done) | ((repeat rw [zset_ne _ _ (by omega)]); first | done | rfl | (simp [zsr, zsd, zset]; done)) | (unfold zsd; (repeat (first | rw [zset_self] | rw [zset_ne _ _ (by omega)])); first | done | rfl | (simp; done))
            have hS3_1 : S3 0 1 = S 0 1 := by rw [hS3]; first | rfl | (simp [zsr, zsd, zset]; done) | ((repeat rw [zset_ne _ _ (by omega)]); first | done | rfl | (simp [zsr, zsd, zset]; done)) | (unfold zsd; (repeat (first | rw [zset_self] | rw [zset_ne _ _ (by omega)])); first | done | rfl | (simp; done))
            have hS3_2 : S3 0 2 = S 0 2 := by rw [hS3]; first | rfl | (simp [zsr, zsd, zset]; done) | ((repeat rw [zset_ne _ _ (by omega)]); first | done | rfl | (simp [zsr, zsd, zset]; done)) | (unfold zsd; (repeat (first | rw [zset_self] | rw [zset_ne _ _ (by omega)])); first | done | rfl | (simp; done))
            have hS3_3 : S3 0 3 = S 0 3 := by rw [hS3]; first | rfl | (simp [zsr, zsd, zset]; done) | ((repeat rw [zset_ne _ _ (by omega)]); first | done | rfl | (simp [zsr, zsd, zset]; done)) | (unfold zsd; (repeat (first | rw [zset_self] | rw [zset_ne _ _ (by omega)])); first | done | rfl | (simp; done))
            have hS3_4 : S3 0 4 = S 0 4 := by rw [hS3]; first | rfl | (simp [zsr, zsd, zset]; done) | ((repeat rw [zset_ne _ _ (by omega)]); first | done | rfl | (simp [zsr, zsd, zset]; done)) | (unfold zsd; (repeat (first | rw [zset_self] | rw [zset_ne _ _ (by omega)])); first | done | rfl | (simp; done))
            skip
            rw [← hQ]
            refine z_iret (z := 1) CX hW ?_ rfl dX3_readAtom_130
            have hq : zra n T S = (1, S3) := by unfold zra; rw [if_pos c_13, if_neg (by omega)]; unfold zra2; rw [if_pos (show zwd n T 2 (S 0 0) = 0 by omega), if_pos (show zwd n T 2 (S 0 0) = 0 by omega), hS3]
            rw [hq]
            exact ⟨rfl, rfl⟩
          ·
            omega
        ·
          refine lv_iconst (v := zI 1) hX0 hB0 dX3_readAtom_101 rfl ?_
          refine lv_goto (tgt := 106) hX0 hB0 dX3_readAtom_102 (by decide) ?_
          refine lv_iload_n hX0 hB0 dX3_readAtom_106 rfl (lv_at hl 0 rfl) ?_
          refine z_if_eq (tgt := 114) CX dX3_readAtom_107 (by decide) (by constructor <;> omega) (fun c_107 => ?_) (fun c_107 => ?_)
          ·
            omega
          ·
            refine lv_iconst (v := zI 0) hX0 hB0 dX3_readAtom_110 rfl ?_
            refine lv_goto (tgt := 115) hX0 hB0 dX3_readAtom_111 (by decide) ?_
            refine lv_iconst (v := zI 1) hX0 hB0 dX3_readAtom_115 rfl ?_
            refine z_callv hW (va_runV (C := RX2) (As := [.int (zI 1), .int (zI 0), .int (zI 1)]) (rest := []) CX.fix (c_put l (f := va_up (zRO cI cP cZ r n T S f) (r + 22) (zA cI 25 (zone 0))) (r + 21) (r + 22) (zone 0) 1 0 1 ((va_up_ne _ _ (by omega)).trans zRO_21) (va_up_self _ _ _) (by constructor <;> omega) (by constructor <;> omega)) (cwV 3 CX.fix.2.2.2.2 gX3_readAtom_X2_put rfl rfl rfl (by decide +kernel) ⟨Nat.le_of_ble_eq_true rfl, Nat.le_of_ble_eq_true rfl⟩) (z_preV CX hW (r := (RX2, TX2, 1)) ((va_up_ne _ _ (by omega)).trans zRO_21) rfl) rfl rfl hl.1 rfl (lv_room (Nat.le_of_ble_eq_true rfl)) dX3_readAtom_116 ⟨Nat.zero_le _, Nat.zero_le _⟩) (fun gn H locs hok116 hW => ?_)
            have eg : gn = va_up (zRO cI cP cZ r n T S f) (r + 22) (zA cI 25 (zput (zone 0) 1 0 1)) := (hok116).trans va_up_up
            rw [eg] at hW
            clear eg
            refine lv_aload_n hX0 hB0 dX3_readAtom_119 rfl (lv_at hl 2 rfl) ?_
            refine lv_dup hX0 hB0 dX3_readAtom_120 rfl ?_
            refine z_get (Cn := RX3) (T := TX3) (N := 13) CX hW (v := .int (zI (S 0 0))) ((va_up_ne _ _ (by omega)).trans zRO_0) rfl (fun w h => List.mem_cons_of_mem _ (List.mem_append_left _ (List.mem_append_left _ (List.mem_append_left _ (List.mem_append_right _ h))))) 12 (by decide) (List.mem_of_getElem? (i := 1) rfl) rfl rfl dX3_readAtom_121 ?_
            refine lv_iconst (v := zI 1) hX0 hB0 dX3_readAtom_124 rfl ?_
            refine z_iadd (z := (S 0 0) + 1) CX dX3_readAtom_125 rfl ?_
            refine z_put (Cn := RX3) (T := TX3) (N := 13) CX hW (v := .int (zI ((S 0 0) + 1))) ((va_up_ne _ _ (by omega)).trans zRO_0) rfl (fun w h => List.mem_cons_of_mem _ (List.mem_append_left _ (List.mem_append_left _ (List.mem_append_left _ (List.mem_append_right _ h))))) tyX3 tyX3_ok nmX3 12 (by decide) (List.mem_of_getElem? (i := 1) rfl) rfl rfl rfl rfl (Nat.le_of_ble_eq_true rfl) (g := va_up (va_up (zRO cI cP cZ r n T S f) (r + 22) (zA cI 25 (zput (zone 0) 1 0 1))) r (.inr (3, [.int (zI n), .int (zI (S 0 1)), .int (zI (S 0 2)), .ref (r + 1), .ref (r + 16), .ref (r + 17), .ref (r + 18), .ref (r + 19), .ref (r + 20), .ref (r + 21), .ref (r + 23), .ref (r + 25), .int (zI ((S 0 0) + 1))]))) rfl dX3_readAtom_126 (fun H locs hW => ?_)
            refine lv_iconst (v := zI 1) hX0 hB0 dX3_readAtom_129 rfl ?_
            have hW := hW
            rw [zRO_w22] at hW
            rw [zRO_wr] at hW
            obtain ⟨S4, hS4⟩ : ∃ q : Nat → Nat → Int, q = zsr (zset S 4 (zput (zone 0) 1 0 1)) ((S 0 0) + 1) (S 0 1) (S 0 2) := ⟨_, rfl⟩
            rw [← hS4] at hW
            have hS4_0 : S4 0 0 = (S 0 0) + 1 := by rw [hS4]; first | rfl | (simp [zsr, zsd, zset]; done) | ((repeat rw [zset_ne _ _ (by omega)]); first | done | rfl | (simp [zsr, zsd, zset]; done)) | (unfold zsd; (repeat (first | rw [zset_self] | rw [zset_ne _ _ (by omega)])); first | done | rfl | (simp; done))
            have hS4_1 : S4 0 1 = S 0 1 := by rw [hS4]; first | rfl | (simp [zsr, zsd, zset]; done) | ((repeat rw [zset_ne _ _ (by omega)]); first | done | rfl | (simp [zsr, zsd, zset]; done)) | (unfold zsd; (repeat (first | rw [zset_self] | rw [zset_ne _ _ (by omega)])); first | done | rfl | (simp; done))
            have hS4_2 : S4 0 2 = S 0 2 := by rw [hS4]; first | rfl | (simp [zsr, zsd, zset]; done) | ((repeat rw [zset_ne _ _ (by omega)]); first | done | rfl | (simp [zsr, zsd, zset]; done)) | (unfold zsd; (repeat (first | rw [zset_self] | rw [zset_ne _ _ (by omega)])); first | done | rfl | (simp; done))
            have hS4_3 : S4 0 3 = S 0 3 := by rw [hS4]; first | rfl | (simp [zsr, zsd, zset]; done) | ((repeat rw [zset_ne _ _ (by omega)]); first | done | rfl | (simp [zsr, zsd, zset]; done)) | (unfold zsd; (repeat (first | rw [zset_self] | rw [zset_ne _ _ (by omega)])); first | done | rfl | (simp; done))
            have hS4_4 : S4 0 4 = S 0 4 := by rw [hS4]; first | rfl | (simp [zsr, zsd, zset]; done) | ((repeat rw [zset_ne _ _ (by omega)]); first | done | rfl | (simp [zsr, zsd, zset]; done)) | (unfold zsd; (repeat (first | rw [zset_self] | rw [zset_ne _ _ (by omega)])); first | done | rfl | (simp; done))
            skip
            rw [← hQ]
            refine z_iret (z := 1) CX hW ?_ rfl dX3_readAtom_130
            have hq : zra n T S = (1, S4) := by unfold zra; rw [if_pos c_13, if_neg (by omega)]; unfold zra2; rw [if_neg (show ¬ zwd n T 2 (S 0 0) = 0 by omega), if_neg (show ¬ zwd n T 2 (S 0 0) = 0 by omega), hS4]
            rw [hq]
            exact ⟨rfl, rfl⟩
      ·
        refine lv_aload_n hX0 hB0 dX3_readAtom_78 rfl (lv_at hl 2 rfl) ?_
        refine lv_iconst (v := zI 1) hX0 hB0 dX3_readAtom_79 rfl ?_
        refine lv_iload_n hX0 hB0 dX3_readAtom_80 rfl (lv_at hl 1 rfl) ?_
        refine z_calli hW (va_runV (C := RX3) (As := [.int (zI 1), .int (zI (S 0 0))]) (rest := []) CX.fix (c_fail l (f := f) r n T S 1 (S 0 0) hT (by constructor <;> omega) (by constructor <;> omega)) (cwV 2 CX.fix.2.2.2.2 gX3_readAtom_X3_fail rfl rfl rfl (by decide +kernel) ⟨Nat.le_of_ble_eq_true rfl, Nat.le_of_ble_eq_true rfl⟩) (z_preV CX hW (r := (RX3, TX3, 13)) zRO_0 rfl) rfl rfl hl.1 rfl (lv_room (Nat.le_of_ble_eq_true rfl)) dX3_readAtom_81 ⟨Nat.zero_le _, Nat.zero_le _⟩) (fun zv gn H locs hok81 hW => ?_)
        obtain ⟨hz81, hg81⟩ := hok81
        obtain ⟨z81, ezv81⟩ : ∃ q, q = zv := ⟨_, rfl⟩
        rw [← ezv81] at hz81 ⊢
        clear ezv81
        rw [hg81] at hW
        clear hg81
        obtain ⟨S81c, hS81c⟩ : ∃ q : Nat → Nat → Int, q = zfl 1 (S 0 0) S := ⟨_, rfl⟩
        rw [← hS81c] at hW
        have hS81c_0 : S81c 0 0 = S 0 0 := by rw [hS81c]; first | rfl | (simp [zsr, zsd, zset]; done) | ((repeat rw [zset_ne _ _ (by omega)]); first | done | rfl | (simp [zsr, zsd, zset]; done)) | (unfold zsd; (repeat (first | rw [zset_self] | rw [zset_ne _ _ (by omega)])); first | done | rfl | (simp; done))
        have hS81c_1 : S81c 0 1 = 1 := by rw [hS81c]; first | rfl | (simp [zsr, zsd, zset]; done) | ((repeat rw [zset_ne _ _ (by omega)]); first | done | rfl | (simp [zsr, zsd, zset]; done)) | (unfold zsd; (repeat (first | rw [zset_self] | rw [zset_ne _ _ (by omega)])); first | done | rfl | (simp; done))
        have hS81c_2 : S81c 0 2 = S 0 0 := by rw [hS81c]; first | rfl | (simp [zsr, zsd, zset]; done) | ((repeat rw [zset_ne _ _ (by omega)]); first | done | rfl | (simp [zsr, zsd, zset]; done)) | (unfold zsd; (repeat (first | rw [zset_self] | rw [zset_ne _ _ (by omega)])); first | done | rfl | (simp; done))
        have hS81c_3 : S81c 0 3 = S 0 3 := by rw [hS81c]; first | rfl | (simp [zsr, zsd, zset]; done) | ((repeat rw [zset_ne _ _ (by omega)]); first | done | rfl | (simp [zsr, zsd, zset]; done)) | (unfold zsd; (repeat (first | rw [zset_self] | rw [zset_ne _ _ (by omega)])); first | done | rfl | (simp; done))
        have hS81c_4 : S81c 0 4 = S 0 4 := by rw [hS81c]; first | rfl | (simp [zsr, zsd, zset]; done) | ((repeat rw [zset_ne _ _ (by omega)]); first | done | rfl | (simp [zsr, zsd, zset]; done)) | (unfold zsd; (repeat (first | rw [zset_self] | rw [zset_ne _ _ (by omega)])); first | done | rfl | (simp; done))
        rw [← hQ]
        refine z_iret (z := z81) CX hW ?_ (zI_bool (by omega)) dX3_readAtom_84
        have hq : zra n T S = (0, S81c) := by unfold zra; rw [if_pos c_13, if_pos ⟨by omega, by omega⟩, ← hS81c]
        rw [hq]
        exact ⟨hz81, rfl⟩
  ·
    refine lv_aload_n hX0 hB0 dX3_readAtom_16 rfl (lv_at hl 1 rfl) ?_
    refine z_calli hW (va_runV (C := RX3) (As := []) (rest := []) CX.fix (c_readNumber l (f := f) r n T S hT (by omega)) (cwV 0 CX.fix.2.2.2.2 gX3_readAtom_X3_readNumber rfl rfl rfl (by decide +kernel) ⟨Nat.le_of_ble_eq_true rfl, Nat.le_of_ble_eq_true rfl⟩) (z_preV CX hW (r := (RX3, TX3, 13)) zRO_0 rfl) rfl rfl hl.1 rfl (lv_room (Nat.le_of_ble_eq_true rfl)) dX3_readAtom_17 ⟨Nat.zero_le _, Nat.zero_le _⟩) (fun zv gn H locs hok17 hW => ?_)
    obtain ⟨hz17, hg17⟩ := hok17
    obtain ⟨z17, ezv17⟩ : ∃ q, q = zv := ⟨_, rfl⟩
    rw [← ezv17] at hz17 ⊢
    clear ezv17
    rw [hg17] at hW
    clear hg17
    obtain ⟨S17c, hS17c⟩ : ∃ q : Nat → Nat → Int, q = (zrn n T S).2 := ⟨_, rfl⟩
    rw [← hS17c] at hW
    have hS17c_0 : S17c 0 0 = (zrnA n T (S 0 0)).1 := by rw [hS17c]; first | rfl | (simp [zsr, zsd, zset]; done) | ((repeat rw [zset_ne _ _ (by omega)]); first | done | rfl | (simp [zsr, zsd, zset]; done)) | (unfold zsd; (repeat (first | rw [zset_self] | rw [zset_ne _ _ (by omega)])); first | done | rfl | (simp; done))
    have hS17c_1 : S17c 0 1 = S 0 1 := by rw [hS17c]; first | rfl | (simp [zsr, zsd, zset]; done) | (exact zrn_num n T S (by decide))
    have hS17c_2 : S17c 0 2 = S 0 2 := by rw [hS17c]; first | rfl | (simp [zsr, zsd, zset]; done) | (exact zrn_num n T S (by decide))
    have hS17c_3 : S17c 0 3 = S 0 3 := by rw [hS17c]; first | rfl | (simp [zsr, zsd, zset]; done) | (exact zrn_num n T S (by decide))
    have hS17c_4 : S17c 0 4 = S 0 4 := by rw [hS17c]; first | rfl | (simp [zsr, zsd, zset]; done) | (exact zrn_num n T S (by decide))
    have hra17 := zrnA_rng (T := T) (show 0 ≤ S 0 0 ∧ S 0 0 ≤ n by omega)
    have hrv17 : -1 ≤ z17 ∧ z17 ≤ 2147483647 := by rw [hz17]; exact zrnV_rng (by omega)
    refine lv_istore_n (lv' := [(2, .int (zI z17)), (1, .int (zI (S 0 0))), (0, .ref r)]) hX0 hB0 dX3_readAtom_20 rfl hl (by decide) rfl (fun ls hl => ?_)
    refine lv_aload_n hX0 hB0 dX3_readAtom_21 rfl (lv_at hl 2 rfl) ?_
    refine z_get (Cn := RX3) (T := TX3) (N := 13) CX hW (v := .ref (r + 21)) zRO_0 rfl (fun w h => List.mem_cons_of_mem _ (List.mem_append_left _ (List.mem_append_left _ (List.mem_append_left _ (List.mem_append_right _ h))))) 9 (by decide) (List.mem_of_getElem? (i := 2) rfl) rfl rfl dX3_readAtom_22 ?_
    refine lv_iload_n hX0 hB0 dX3_readAtom_25 rfl (lv_at hl 0 rfl) ?_
    refine lv_aload_n hX0 hB0 dX3_readAtom_26 rfl (lv_at hl 2 rfl) ?_
    refine z_get (Cn := RX3) (T := TX3) (N := 13) CX hW (v := .ref (r + 1)) zRO_0 rfl (fun w h => List.mem_cons_of_mem _ (List.mem_append_left _ (List.mem_append_left _ (List.mem_append_left _ (List.mem_append_right _ h))))) 3 (by decide) (List.mem_of_getElem? (i := 3) rfl) rfl rfl dX3_readAtom_27 ?_
    refine z_get (Cn := RX7) (T := TX7) (N := 4) CX hW (v := .int (zI (S17c 0 3))) zRO_1 rfl (fun w h => List.mem_cons_of_mem _ (List.mem_append_left _ (List.mem_append_left _ (List.mem_append_right _ h)))) 0 (by decide) (List.mem_of_getElem? (i := 4) rfl) rfl rfl dX3_readAtom_30 ?_
    refine z_calli hW (va_runSN (As := [.int (zI z17), .int (zI (S17c 0 3))]) (rest := [.ref (r + 21)]) CX.fix (c_mod l (f := zRO cI cP cZ r n T S17c f) z17 (S17c 0 3) (by constructor <;> omega) (by constructor <;> omega)) ⟨va_cnB (own := RX3) (host := "CurveMeets") (index := 168) 2 CX.fix.2.2.2.2 ggX3_readAtom_X11_mod rfl rfl rfl (CX.2.2.2.2.2.2.2.1 _ (by decide +kernel)) (CX.at (List.mem_of_getElem? (i := 28) rfl)) (by decide +kernel) ⟨Nat.le_of_ble_eq_true rfl, Nat.le_of_ble_eq_true rfl⟩, CX.at (List.mem_of_getElem? (i := 27) rfl), trivial⟩ (z_preS CX hW) rfl rfl hl.1 rfl (lv_room (Nat.le_of_ble_eq_true rfl)) dX3_readAtom_33 ⟨Nat.zero_le _, Nat.zero_le _⟩) (fun zv gn H locs hok33 hW => ?_)
    obtain ⟨ez, eg⟩ := hok33
    have eg : gn = zRO cI cP cZ r n T S17c f := eg
    rw [eg] at hW
    clear eg
    have ez : zv = z17 % (S17c 0 3) := ez
    rw [ez]
    clear ez
    have hm33 := zmr z17 (p := (S17c 0 3)) (by omega)
    refine z_callv hW (va_runV (C := RX2) (As := [.int (zI (z17 % (S17c 0 3)))]) (rest := []) CX.fix (c_setTo l (f := zRO cI cP cZ r n T S17c f) (r + 21) (r + 22) (S17c 4) (z17 % (S17c 0 3)) zRO_21 zRO_22) (cwV 1 CX.fix.2.2.2.2 gX3_readAtom_X2_setTo rfl rfl rfl (by decide +kernel) ⟨Nat.le_of_ble_eq_true rfl, Nat.le_of_ble_eq_true rfl⟩) (z_preV CX hW (r := (RX2, TX2, 1)) zRO_21 rfl) rfl rfl hl.1 rfl (lv_room (Nat.le_of_ble_eq_true rfl)) dX3_readAtom_36 ⟨Nat.zero_le _, Nat.zero_le _⟩) (fun gn H locs hok36 hW => ?_)
    have eg : gn = va_up (zRO cI cP cZ r n T S17c f) (r + 22) (zA cI 25 (zone (z17 % (S17c 0 3)))) := hok36
    rw [eg] at hW
    clear eg
    refine lv_iload_n hX0 hB0 dX3_readAtom_39 rfl (lv_at hl 0 rfl) ?_
    refine z_if_ge (tgt := 52) CX dX3_readAtom_40 (by decide) (by constructor <;> omega) (fun c_40 => ?_) (fun c_40 => ?_)
    ·
      refine lv_iconst (v := zI 1) hX0 hB0 dX3_readAtom_52 rfl ?_
      refine lv_goto (tgt := 57) hX0 hB0 dX3_readAtom_53 (by decide) ?_
      have hW := hW
      rw [zRO_w22] at hW
      obtain ⟨S5, hS5⟩ : ∃ q : Nat → Nat → Int, q = zset S17c 4 (zone (z17 % (S17c 0 3))) := ⟨_, rfl⟩
      rw [← hS5] at hW
      have hS5_0 : S5 0 0 = S17c 0 0 := by rw [hS5]; first | rfl | (simp [zsr, zsd, zset]; done) | ((repeat rw [zset_ne _ _ (by omega)]); first | done | rfl | (simp [zsr, zsd, zset]; done)) | (unfold zsd; (repeat (first | rw [zset_self] | rw [zset_ne _ _ (by omega)])); first | done | rfl | (simp; done))
      have hS5_1 : S5 0 1 = S17c 0 1 := by rw [hS5]; first | rfl | (simp [zsr, zsd, zset]; done) | ((repeat rw [zset_ne _ _ (by omega)]); first | done | rfl | (simp [zsr, zsd, zset]; done)) | (unfold zsd; (repeat (first | rw [zset_self] | rw [zset_ne _ _ (by omega)])); first | done | rfl | (simp; done))
      have hS5_2 : S5 0 2 = S17c 0 2 := by rw [hS5]; first | rfl | (simp [zsr, zsd, zset]; done) | ((repeat rw [zset_ne _ _ (by omega)]); first | done | rfl | (simp [zsr, zsd, zset]; done)) | (unfold zsd; (repeat (first | rw [zset_self] | rw [zset_ne _ _ (by omega)])); first | done | rfl | (simp; done))
      have hS5_3 : S5 0 3 = S17c 0 3 := by rw [hS5]; first | rfl | (simp [zsr, zsd, zset]; done) | ((repeat rw [zset_ne _ _ (by omega)]); first | done | rfl | (simp [zsr, zsd, zset]; done)) | (unfold zsd; (repeat (first | rw [zset_self] | rw [zset_ne _ _ (by omega)])); first | done | rfl | (simp; done))
      have hS5_4 : S5 0 4 = S17c 0 4 := by rw [hS5]; first | rfl | (simp [zsr, zsd, zset]; done) | ((repeat rw [zset_ne _ _ (by omega)]); first | done | rfl | (simp [zsr, zsd, zset]; done)) | (unfold zsd; (repeat (first | rw [zset_self] | rw [zset_ne _ _ (by omega)])); first | done | rfl | (simp; done))
      skip
      rw [← hQ]
      refine z_iret (z := 1) CX hW ?_ rfl dX3_readAtom_57
      have hq : zra n T S = (1, S5) := by unfold zra; rw [if_neg c_13]; unfold zra1; rw [← hz17, if_neg (by omega), ← hS17c, hS5, hS17c_3]
      rw [hq]
      exact ⟨rfl, rfl⟩
    ·
      refine lv_aload_n hX0 hB0 dX3_readAtom_43 rfl (lv_at hl 2 rfl) ?_
      refine lv_iconst (v := zI 2) hX0 hB0 dX3_readAtom_44 rfl ?_
      refine lv_iload_n hX0 hB0 dX3_readAtom_45 rfl (lv_at hl 1 rfl) ?_
      have hW := hW
      rw [zRO_w22] at hW
      obtain ⟨S6, hS6⟩ : ∃ q : Nat → Nat → Int, q = zset S17c 4 (zone (z17 % (S17c 0 3))) := ⟨_, rfl⟩
      rw [← hS6] at hW
      have hS6_0 : S6 0 0 = S17c 0 0 := by rw [hS6]; first | rfl | (simp [zsr, zsd, zset]; done) | ((repeat rw [zset_ne _ _ (by omega)]); first | done | rfl | (simp [zsr, zsd, zset]; done)) | (unfold zsd; (repeat (first | rw [zset_self] | rw [zset_ne _ _ (by omega)])); first | done | rfl | (simp; done))
      have hS6_1 : S6 0 1 = S17c 0 1 := by rw [hS6]; first | rfl | (simp [zsr, zsd, zset]; done) | ((repeat rw [zset_ne _ _ (by omega)]); first | done | rfl | (simp [zsr, zsd, zset]; done)) | (unfold zsd; (repeat (first | rw [zset_self] | rw [zset_ne _ _ (by omega)])); first | done | rfl | (simp; done))
      have hS6_2 : S6 0 2 = S17c 0 2 := by rw [hS6]; first | rfl | (simp [zsr, zsd, zset]; done) | ((repeat rw [zset_ne _ _ (by omega)]); first | done | rfl | (simp [zsr, zsd, zset]; done)) | (unfold zsd; (repeat (first | rw [zset_self] | rw [zset_ne _ _ (by omega)])); first | done | rfl | (simp; done))
      have hS6_3 : S6 0 3 = S17c 0 3 := by rw [hS6]; first | rfl | (simp [zsr, zsd, zset]; done) | ((repeat rw [zset_ne _ _ (by omega)]); first | done | rfl | (simp [zsr, zsd, zset]; done)) | (unfold zsd; (repeat (first | rw [zset_self] | rw [zset_ne _ _ (by omega)])); first | done | rfl | (simp; done))
      have hS6_4 : S6 0 4 = S17c 0 4 := by rw [hS6]; first | rfl | (simp [zsr, zsd, zset]; done) | ((repeat rw [zset_ne _ _ (by omega)]); first | done | rfl | (simp [zsr, zsd, zset]; done)) | (unfold zsd; (repeat (first | rw [zset_self] | rw [zset_ne _ _ (by omega)])); first | done | rfl | (simp; done))
      skip
      refine z_calli hW (va_runV (C := RX3) (As := [.int (zI 2), .int (zI (S 0 0))]) (rest := []) CX.fix (c_fail l (f := f) r n T S6 2 (S 0 0) hT (by constructor <;> omega) (by constructor <;> omega)) (cwV 2 CX.fix.2.2.2.2 gX3_readAtom_X3_fail rfl rfl rfl (by decide +kernel) ⟨Nat.le_of_ble_eq_true rfl, Nat.le_of_ble_eq_true rfl⟩) (z_preV CX hW (r := (RX3, TX3, 13)) zRO_0 rfl) rfl rfl hl.1 rfl (lv_room (Nat.le_of_ble_eq_true rfl)) dX3_readAtom_46 ⟨Nat.zero_le _, Nat.zero_le _⟩) (fun zv gn H locs hok46 hW => ?_)
      obtain ⟨hz46, hg46⟩ := hok46
      obtain ⟨z46, ezv46⟩ : ∃ q, q = zv := ⟨_, rfl⟩
      rw [← ezv46] at hz46 ⊢
      clear ezv46
      rw [hg46] at hW
      clear hg46
      obtain ⟨S46c, hS46c⟩ : ∃ q : Nat → Nat → Int, q = zfl 2 (S 0 0) S6 := ⟨_, rfl⟩
      rw [← hS46c] at hW
      have hS46c_0 : S46c 0 0 = S6 0 0 := by rw [hS46c]; first | rfl | (simp [zsr, zsd, zset]; done) | ((repeat rw [zset_ne _ _ (by omega)]); first | done | rfl | (simp [zsr, zsd, zset]; done)) | (unfold zsd; (repeat (first | rw [zset_self] | rw [zset_ne _ _ (by omega)])); first | done | rfl | (simp; done))
      have hS46c_1 : S46c 0 1 = 2 := by rw [hS46c]; first | rfl | (simp [zsr, zsd, zset]; done) | ((repeat rw [zset_ne _ _ (by omega)]); first | done | rfl | (simp [zsr, zsd, zset]; done)) | (unfold zsd; (repeat (first | rw [zset_self] | rw [zset_ne _ _ (by omega)])); first | done | rfl | (simp; done))
      have hS46c_2 : S46c 0 2 = S 0 0 := by rw [hS46c]; first | rfl | (simp [zsr, zsd, zset]; done) | ((repeat rw [zset_ne _ _ (by omega)]); first | done | rfl | (simp [zsr, zsd, zset]; done)) | (unfold zsd; (repeat (first | rw [zset_self] | rw [zset_ne _ _ (by omega)])); first | done | rfl | (simp; done))
      have hS46c_3 : S46c 0 3 = S6 0 3 := by rw [hS46c]; first | rfl | (simp [zsr, zsd, zset]; done) | ((repeat rw [zset_ne _ _ (by omega)]); first | done | rfl | (simp [zsr, zsd, zset]; done)) | (unfold zsd; (repeat (first | rw [zset_self] | rw [zset_ne _ _ (by omega)])); first | done | rfl | (simp; done))
      have hS46c_4 : S46c 0 4 = S6 0 4 := by rw [hS46c]; first | rfl | (simp [zsr, zsd, zset]; done) | ((repeat rw [zset_ne _ _ (by omega)]); first | done | rfl | (simp [zsr, zsd, zset]; done)) | (unfold zsd; (repeat (first | rw [zset_self] | rw [zset_ne _ _ (by omega)])); first | done | rfl | (simp; done))
      refine z_if_eq (tgt := 56) CX dX3_readAtom_49 (by decide) (by constructor <;> omega) (fun c_49 => ?_) (fun c_49 => ?_)
      ·
        refine lv_iconst (v := zI 0) hX0 hB0 dX3_readAtom_56 rfl ?_
        rw [← hQ]
        refine z_iret (z := 0) CX hW ?_ rfl dX3_readAtom_57
        have hq : zra n T S = (0, S46c) := by unfold zra; rw [if_neg c_13]; unfold zra1; rw [← hz17, if_pos (by omega), ← hS17c, hS46c, hS6, hS17c_3]
        rw [hq]
        exact ⟨rfl, rfl⟩
      ·
        exact absurd hz46 c_49
/-- brackets that close -/
noncomputable def zcl (o : Nat) (S : Nat → Nat → Int) : Nat → Nat → Int := zset (zct o S) 4 (zct o S (20 + o))
noncomputable def zcw (n : Int) (T : Nat → Int) : Nat → (Nat → Nat → Int) → Int × Nat × (Nat → Nat → Int)
  | 0, S => (1, 0, S)
  | m + 1, S => if (ztk n T 41 S).1 = 0 then (1, m + 1, (ztk n T 41 S).2) else if (zrf n T m (zcl (m + 1) (ztk n T 41 S).2 3 m) (zcl (m + 1) (ztk n T 41 S).2)).1 = 0 then (0, m, (zrf n T m (zcl (m + 1) (ztk n T 41 S).2 3 m) (zcl (m + 1) (ztk n T 41 S).2)).2) else zcw n T m (zrf n T m (zcl (m + 1) (ztk n T 41 S).2 3 m) (zcl (m + 1) (ztk n T 41 S).2)).2
/-- behind the brackets: 1 and what goes on, or 0 and the answer -/
noncomputable def zrs3 (n : Int) (T : Nat → Int) (o : Nat) (S : Nat → Nat → Int) : Int × Int × Nat × (Nat → Nat → Int) := if (ztk n T 43 S).1 = 0 then (if o = 0 then (0, 1, o, (ztk n T 43 S).2) else (0, 0, o, zfl 1 ((ztk n T 43 S).2 0 0) (ztk n T 43 S).2)) else (1, 0, o, (ztk n T 43 S).2)
noncomputable def zrs2 (n : Int) (T : Nat → Int) (o : Nat) (S : Nat → Nat → Int) : Int × Int × Nat × (Nat → Nat → Int) := if (ztk n T 42 S).1 = 0 then (if (ztk n T 45 (zct o (ztk n T 42 S).2)).1 = 0 then zrs3 n T o (zbg2 o (ztk n T 45 (zct o (ztk n T 42 S).2))) else (1, 0, o, zbg2 o (ztk n T 45 (zct o (ztk n T 42 S).2)))) else (1, 0, o, (ztk n T 42 S).2)
noncomputable def zrs1 (n : Int) (T : Nat → Int) (o : Nat) (stt : Int) (S : Nat → Nat → Int) : Int × Int × Nat × (Nat → Nat → Int) := if (zra n T S).1 = 0 then (0, 0, o, (zra n T S).2) else if (zrf n T o stt (zra n T S).2).1 = 0 then (0, 0, o, (zrf n T o stt (zra n T S).2).2) else if (zcw n T o (zrf n T o stt (zra n T S).2).2).1 = 0 then (0, 0, (zcw n T o (zrf n T o stt (zra n T S).2).2).2.1, (zcw n T o (zrf n T o stt (zra n T S).2).2).2.2) else zrs2 n T (zcw n T o (zrf n T o stt (zra n T S).2).2).2.1 (zcw n T o (zrf n T o stt (zra n T S).2).2).2.2
noncomputable def zrs0 (n : Int) (T : Nat → Int) (o : Nat) (S : Nat → Nat → Int) : Int × Int × Nat × (Nat → Nat → Int) := if (ztk n T 40 (zskS n T S)).1 = 0 then zrs1 n T o (zskS n T S 0 0) (ztk n T 40 (zskS n T S)).2 else if 40 ≤ o then (0, 0, o, zfl 4 (zskS n T S 0 0) (ztk n T 40 (zskS n T S)).2) else (1, 0, o + 1, zbg n T (o + 1) (zset (ztk n T 40 (zskS n T S)).2 3 (zup ((ztk n T 40 (zskS n T S)).2 3) o (zskS n T S 0 0))))
noncomputable def zrsF (n : Int) (T : Nat → Int) : Nat → Nat → (Nat → Nat → Int) → Int × (Nat → Nat → Int)
  | 0, _, S => (0, S)
  | m + 1, o, S => if (zrs0 n T o S).1 = 0 then ((zrs0 n T o S).2.1, (zrs0 n T o S).2.2.2) else zrsF n T m (zrs0 n T o S).2.2.1 (zrs0 n T o S).2.2.2
/-- a SUM -/
noncomputable def zrs (n : Int) (T : Nat → Int) (S : Nat → Nat → Int) : Int × (Nat → Nat → Int) := zrsF n T (n + 1 - 0).toNat 0 (zbg n T 0 S)
theorem zcw_s (n : Int) (T : Nat → Int) (m : Nat) (S : Nat → Nat → Int) : zcw n T (m + 1) S = if (ztk n T 41 S).1 = 0 then (1, m + 1, (ztk n T 41 S).2) else if (zrf n T m (zcl (m + 1) (ztk n T 41 S).2 3 m) (zcl (m + 1) (ztk n T 41 S).2)).1 = 0 then (0, m, (zrf n T m (zcl (m + 1) (ztk n T 41 S).2 3 m) (zcl (m + 1) (ztk n T 41 S).2)).2) else zcw n T m (zrf n T m (zcl (m + 1) (ztk n T 41 S).2 3 m) (zcl (m + 1) (ztk n T 41 S).2)).2 := rfl
theorem zrsF_s (n : Int) (T : Nat → Int) (m o : Nat) (S : Nat → Nat → Int) : zrsF n T (m + 1) o S = if (zrs0 n T o S).1 = 0 then ((zrs0 n T o S).2.1, (zrs0 n T o S).2.2.2) else zrsF n T m (zrs0 n T o S).2.2.1 (zrs0 n T o S).2.2.2 := rfl
/-- all that holds between two steps -/
def zqI (n p : Int) (S : Nat → Nat → Int) (o : Int) : Prop := (0 ≤ S 0 0 ∧ S 0 0 ≤ n) ∧ S 0 3 = p ∧ zpI S o ∧ zmI S ∧ zsI S
theorem zqI.keep {n p : Int} {S S2 : Nat → Nat → Int} {o : Int} (h : zqI n p S o) (h0 : 0 ≤ S2 0 0 ∧ S2 0 0 ≤ n) (h3 : S2 0 3 = S 0 3) (hk : ∀ k, k = 2 ∨ k = 3 ∨ 20 ≤ k → S2 k = S k) : zqI n p S2 o := by
  refine ⟨h0, h3.trans h.2.1, fun k hko => ?_, fun k => ?_, fun k => ?_⟩
  · rw [h3, hk _ (by omega), hk _ (by omega)]
    exact h.2.2.1 k hko
  · rw [hk _ (by omega)]
    exact h.2.2.2.1 k
  · rw [hk _ (by omega)]
    exact h.2.2.2.2 k
theorem zqI.less {n p : Int} {S : Nat → Nat → Int} {o o2 : Int} (h : zqI n p S o) (ho : o2 ≤ o) : zqI n p S o2 := ⟨h.1, h.2.1, fun k hk => h.2.2.1 k (by omega), h.2.2.2⟩
theorem zqI.rf {n p : Int} {T : Nat → Int} {S : Nat → Nat → Int} {o : Int} {j : Nat} {stt : Int} (h : zqI n p S o) (hj : (j : Int) ≤ o) (ho : o ≤ 40) (hp : 2 ≤ p) : zqI n p (zrf n T j stt S).2 o := by
  have hs := zrf_sim n T j stt S
  refine ⟨by have := zrf_pl (T := T) j stt h.1; have := h.1; omega, hs.1.1.trans h.2.1, fun k hk => ?_, fun k => ?_, fun k => ?_⟩
  · rw [hs.1.1]
    have hb := h.2.2.1 k hk
    by_cases e : k = j
    · subst e
      exact ⟨by rw [hs.2 _ (by omega) (by omega) (by omega) (by omega)]; exact hb.1, by rw [h.2.1] at hb ⊢; exact zrf_can h.2.1 (by omega) hb.2⟩
    · by_cases e2 : 20 + k = 70 + j
      · omega
      · rw [hs.2 _ (by omega) (by omega) (by omega) e2, hs.2 _ (by omega) (by omega) (by omega) (by omega)]
        exact hb
  · rw [hs.2 2 (by decide) (by decide) (by decide) (by omega)]
    exact h.2.2.2.1 k
  · rw [hs.2 3 (by decide) (by decide) (by decide) (by omega)]
    exact h.2.2.2.2 k
theorem zqI.ct {n p : Int} {S : Nat → Nat → Int} {o : Int} {j : Nat} (h : zqI n p S o) (hj : (j : Int) ≤ o) (ho : o ≤ 40) (hp : 2 ≤ p) : zqI n p (zct j S) o :=
  ⟨by rw [zct_num]; exact h.1, by rw [zct_num]; exact h.2.1, zct_p (by omega) (by rw [h.2.1]; exact hp) h.2.2.1 hj, fun k => by rw [zct_k _ _ (by omega) (by omega)]; exact h.2.2.2.1 k, fun k => by rw [zct_k _ _ (by omega) (by omega)]; exact h.2.2.2.2 k⟩
theorem zqI.tk {n p : Int} {T : Nat → Int} {S : Nat → Nat → Int} {o sg : Int} (h : zqI n p S o) (hs : 0 ≤ sg) : zqI n p (ztk n T sg S).2 o := h.keep (by have := ztk_rng (T := T) h.1 hs; have := h.1; omega) (ztk_num _ _ _ _ (by decide)) (fun k hk => ztk_k _ _ _ _ (by omega))
theorem zqI.sk {n p : Int} {T : Nat → Int} {S : Nat → Nat → Int} {o : Int} (h : zqI n p S o) : zqI n p (zskS n T S) o := h.keep (by have := zsk_rng (T := T) h.1; have := h.1; show 0 ≤ zsk n T (S 0 0) ∧ zsk n T (S 0 0) ≤ n; omega) rfl (fun k hk => zsr_ne (by omega))
theorem zqI.ra {n p : Int} {T : Nat → Int} {S : Nat → Nat → Int} {o : Int} (h : zqI n p S o) : zqI n p (zra n T S).2 o := h.keep (by have := zra_pl (T := T) h.1; have := h.1; omega) (zra_num _ _ _ (Or.inl rfl)) (fun k hk => zra_k _ _ _ (by omega) (by omega))
theorem zqI.up {n p : Int} {S : Nat → Nat → Int} {o : Int} {k : Nat} {x : Nat → Int} (h : zqI n p S o) (hk : k = 4 ∨ k = 5 ∨ k = 6) : zqI n p (zset S k x) o := h.keep (by rw [zset_ne _ _ (by omega)]; exact h.1) (by rw [zset_ne _ _ (by omega)]) (fun j hj => zset_ne _ _ (by omega))
theorem zqI.st {n p : Int} {S : Nat → Nat → Int} {o : Int} {j : Nat} {x : Int} (h : zqI n p S o) (hx : 0 ≤ x ∧ x ≤ 1000) : zqI n p (zset S 3 (zup (S 3) j x)) o := by
  refine ⟨by rw [zset_ne _ _ (by decide)]; exact h.1, by rw [zset_ne _ _ (by decide)]; exact h.2.1, fun k hk => ?_, fun k => ?_, fun k => ?_⟩
  · rw [zset_ne _ _ (by decide), zset_ne _ _ (by omega), zset_ne _ _ (by omega)]
    exact h.2.2.1 k hk
  · rw [zset_ne _ _ (by decide)]
    exact h.2.2.2.1 k
  · rw [zset_self]
    unfold zup
    split
    · exact hx
    · exact h.2.2.2.2 k
theorem zqI.bg {n p : Int} {T : Nat → Int} {S : Nat → Nat → Int} {o : Nat} (h : zqI n p S ((o : Int) - 1)) (ho : o < 41) (hp : 2 ≤ p) : zqI n p (zbg n T o S) o :=
  ⟨by have := zbg_pl (T := T) o h.1; have := h.1; omega, (zbg_num _ _ _ _ (by decide)).trans h.2.1, zbg_p ho (by rw [h.2.1]; exact hp) h.2.2.1, zbg_m h.2.2.2.1, fun k => by rw [zbg_k _ _ _ _ (by decide) (by decide) (by omega) (by omega)]; exact h.2.2.2.2 k⟩
theorem zqI.bg2 {n p : Int} {T : Nat → Int} {S : Nat → Nat → Int} {o : Int} {j : Nat} (h : zqI n p S o) : zqI n p (zbg2 j (ztk n T 45 S)) o := by
  have h2 := h.tk (T := T) (sg := 45) (by decide)
  refine ⟨by unfold zbg2; rw [zset_ne _ _ (by decide)]; exact h2.1, by unfold zbg2; rw [zset_ne _ _ (by decide)]; exact h2.2.1, fun k hk => ?_, fun k => ?_, fun k => ?_⟩
  · unfold zbg2
    rw [zset_ne _ _ (by decide), zset_ne _ _ (by omega), zset_ne _ _ (by omega)]
    exact h2.2.2.1 k hk
  · unfold zbg2
    rw [zset_self]
    unfold zup
    split
    · have := ztk_01 n T 45 S
      omega
    · exact h2.2.2.2.1 k
  · unfold zbg2
    rw [zset_ne _ _ (by decide)]
    exact h2.2.2.2.2 k
end ZTx4
