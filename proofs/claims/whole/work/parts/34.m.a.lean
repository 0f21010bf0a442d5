section ZMe
def zm_isIn (v : Int) (low : Int) (high : Int) : Int := (if v < low then 0 else (if high < v then 0 else 1))
set_option maxRecDepth 100000 in
set_option maxHeartbeats 4000000 in
theorem zk_isIn (l : Launch) {D : va_G} {cI cJ cZ cP cS cM : ClassId} {L : List Nat} {sz : Nat} {f : Nat → va_E} (v : Int) (low : Int) (high : Int) (hv : -2147483648 ≤ v ∧ v ≤ 2147483647) (hlow : -2147483648 ≤ low ∧ low ≤ 2147483647) (hhigh : -2147483648 ≤ high ∧ high ≤ 2147483647) : zMi l yX12_isIn wsX12_isIn 0 0 D (zT cI cJ cZ cP cS cM) L sz f [.int (zI v), .int (zI low), .int (zI high)] (fun zv gv => zv = zm_isIn v low high ∧ gv = f ∧ 0 ≤ zv ∧ zv ≤ 1 ∧ (zv ≠ 0 → low ≤ v ∧ v ≤ high) ∧ (low ≤ v → v ≤ high → zv ≠ 0)) := by
  refine zWalk.met (nL := 3) (ret := (some .boolean)) (cc := cX12_isIn) (by decide) rfl (Nat.le_of_ble_eq_true rfl) ?_
  intro pg en st mi ag bl mt cd ls CX hW hl
  have CX : zC pg st mi ag mt cd cX12_isIn 3 (some .boolean) RX12 wsX12_isIn := CX
  generalize hQ : MQ bl _ ag st 0 0 _ = Q
  have hX0 := CX.1
  have hB0 := CX.2.1
  have hl : lv_has ls 3 [(0, .int (zI v)), (1, .int (zI low)), (2, .int (zI high))] := hl
  obtain ⟨H, eH⟩ : ∃ H, H = st.heap := ⟨_, rfl⟩
  obtain ⟨locs, eL⟩ : ∃ L : List Loc, L = [] := ⟨_, rfl⟩
  have hW : zW D (zT cI cJ cZ cP cS cM) L (zQ L sz) st f st.heap H locs := by rw [eH, eL]; exact hW
  suffices hgo : W pg l en ({ frames := 0, cells := 0, slots := 0, locals := 0 } : Room) st mi ag bl mt cd H locs 0 0 Q (F0 mi 0 ls []) by rw [eH, eL] at hgo; exact hgo
  clear eH eL
  refine lv_iload_n hX0 hB0 dX12_isIn_0 rfl (lv_at hl 0 rfl) ?_
  refine lv_iload_n hX0 hB0 dX12_isIn_1 rfl (lv_at hl 1 rfl) ?_
  refine z_icmp_lt (tgt := 14) CX dX12_isIn_2 (by decide) (by constructor <;> omega) (by constructor <;> omega) (fun c_2 => ?_) (fun c_2 => ?_)
  ·
    refine lv_iconst (v := zI 0) hX0 hB0 dX12_isIn_14 rfl ?_
    have hE : zm_isIn v low high = 0 := by unfold zm_isIn; exact zif_t c_2 rfl
    rw [← hQ]
    exact z_iret (z := 0) CX hW (by rw [hE]; exact ⟨rfl, rfl, (show 0 ≤ (0 : Int) ∧ (0 : Int) ≤ 1 ∧ ((0 : Int) ≠ 0 → low ≤ v ∧ v ≤ high) ∧ (low ≤ v → v ≤ high → (0 : Int) ≠ 0) from by omega)⟩) rfl dX12_isIn_15
  ·
    have d_2 : ¬ v < low := by omega
    refine lv_iload_n hX0 hB0 dX12_isIn_5 rfl (lv_at hl 0 rfl) ?_
    refine lv_iload_n hX0 hB0 dX12_isIn_6 rfl (lv_at hl 2 rfl) ?_
    refine z_icmp_gt (tgt := 14) CX dX12_isIn_7 (by decide) (by constructor <;> omega) (by constructor <;> omega) (fun c_7 => ?_) (fun c_7 => ?_)
    ·
      refine lv_iconst (v := zI 0) hX0 hB0 dX12_isIn_14 rfl ?_
      have hE : zm_isIn v low high = 0 := by unfold zm_isIn; exact zif_f d_2 (zif_t c_7 rfl)
      rw [← hQ]
      exact z_iret (z := 0) CX hW (by rw [hE]; exact ⟨rfl, rfl, (show 0 ≤ (0 : Int) ∧ (0 : Int) ≤ 1 ∧ ((0 : Int) ≠ 0 → low ≤ v ∧ v ≤ high) ∧ (low ≤ v → v ≤ high → (0 : Int) ≠ 0) from by omega)⟩) rfl dX12_isIn_15
    ·
      have d_7 : ¬ high < v := by omega
      refine lv_iconst (v := zI 1) hX0 hB0 dX12_isIn_10 rfl ?_
      refine lv_goto (tgt := 15) hX0 hB0 dX12_isIn_11 (by decide) ?_
      have hE : zm_isIn v low high = 1 := by unfold zm_isIn; exact zif_f d_2 (zif_f d_7 rfl)
      rw [← hQ]
      exact z_iret (z := 1) CX hW (by rw [hE]; exact ⟨rfl, rfl, (show 0 ≤ (1 : Int) ∧ (1 : Int) ≤ 1 ∧ ((1 : Int) ≠ 0 → low ≤ v ∧ v ≤ high) ∧ (low ≤ v → v ≤ high → (1 : Int) ≠ 0) from by omega)⟩) rfl dX12_isIn_15
def zm_refuses (S : zS2) (why : Int) : Int × zS2 := zlet (za S 2 why.toNat ((S 2 why.toNat) + 1)) (fun S9 => (-1, S9))
set_option maxRecDepth 100000 in
set_option maxHeartbeats 4000000 in
theorem zk_refuses (l : Launch) {D : va_G} {cI cJ cZ cP cS cM : ClassId} {L : List Nat} {sz : Nat} {f : Nat → va_E} (o : Nat) (S : zS2) (why : Int) (hI : mI S) (hwhy : 0 ≤ why ∧ why ≤ 4) : zMi l yX12_refuses wsX12_refuses 0 0 D (zT cI cJ cZ cP cS cM) L sz (zMO cI cJ o S f) [.ref o, .int (zI why)] (fun zv gv => zv = (zm_refuses S why).1 ∧ gv = zMO cI cJ o (zm_refuses S why).2 f ∧ mI (zm_refuses S why).2 ∧ (∀ kk ii : Nat, ¬ kk = 2 → (zm_refuses S why).2 kk ii = S kk ii) ∧ zv = -1) := by
  refine zWalk.met (nL := 2) (ret := (some .int)) (cc := cX12_refuses) (by decide) rfl (Nat.le_of_ble_eq_true rfl) ?_
  intro pg en st mi ag bl mt cd ls CX hW hl
  have CX : zC pg st mi ag mt cd cX12_refuses 2 (some .int) RX12 wsX12_refuses := CX
  generalize hQ : MQ bl _ ag st 0 0 _ = Q
  have hX0 := CX.1
  have hB0 := CX.2.1
  have hl : lv_has ls 2 [(0, .ref o), (1, .int (zI why))] := hl
  obtain ⟨H, eH⟩ : ∃ H, H = st.heap := ⟨_, rfl⟩
  obtain ⟨locs, eL⟩ : ∃ L : List Loc, L = [] := ⟨_, rfl⟩
  have hW : zW D (zT cI cJ cZ cP cS cM) L (zQ L sz) st (zMO cI cJ o S f) st.heap H locs := by rw [eH, eL]; exact hW
  suffices hgo : W pg l en ({ frames := 0, cells := 0, slots := 0, locals := 0 } : Room) st mi ag bl mt cd H locs 0 0 Q (F0 mi 0 ls []) by rw [eH, eL] at hgo; exact hgo
  clear eH eL
  have hpb := hI.s10
  refine lv_aload_n hX0 hB0 dX12_refuses_0 rfl (lv_at hl 0 rfl) ?_
  refine z_get (Cn := RX12) (T := TX12) (N := 37) CX hW (v := .ref (o + 2)) zMO_0 rfl (fun w h => List.mem_cons_of_mem _ (List.mem_append_right _ h)) 2 (by decide) (List.mem_of_getElem? (i := 1) rfl) rfl rfl dX12_refuses_1 ?_
  refine lv_iload_n hX0 hB0 dX12_refuses_4 rfl (lv_at hl 1 rfl) ?_
  refine lv_dup2_11 hX0 hB0 dX12_refuses_5 rfl rfl ?_
  refine z_iald (z := S 2 why.toNat) CX hW zMO_2 0 rfl (by refine ⟨?_, ?_, ?_⟩ <;> omega) rfl dX12_refuses_6 ?_
  refine lv_iconst (v := zI 1) hX0 hB0 dX12_refuses_7 rfl ?_
  refine z_iadd (z := (S 2 why.toNat) + 1) CX dX12_refuses_8 rfl ?_
  obtain ⟨S9, e9⟩ : ∃ q, za S 2 why.toNat ((S 2 why.toNat) + 1) = q := ⟨_, rfl⟩
  refine z_iast CX hW zMO_2 0 rfl (by refine ⟨?_, ?_, ?_⟩ <;> omega) (g := zMO cI cJ o S9 f) (zMO_w2.trans (by rw [← e9]; rfl)) dX12_refuses_9 (fun H locs hW => ?_)
  have hI9 : mI S9 := e9 ▸ hI.w2 
  refine lv_iconst (v := zI (-1)) hX0 hB0 dX12_refuses_10 rfl ?_
  have hE : zm_refuses S why = (-1, S9) := by unfold zm_refuses; exact zlet_e e9 rfl
  have hFr : ∀ kk ii : Nat, ¬ kk = 2 → S9 kk ii = S kk ii := fun kk ii hk => (show S9 kk ii = S kk ii from by rw [← e9]; exact za_ne (by omega))
  rw [← hQ]
  exact z_iret (z := -1) CX hW (by rw [hE]; exact ⟨rfl, rfl, hI9, hFr, (show (-1 : Int) = -1 from by omega)⟩) rfl dX12_refuses_11
def zm_isRefused (S : zS2) (why : Int) : Int × zS2 := zlet (za S 2 why.toNat ((S 2 why.toNat) + 1)) (fun S9 => (0, S9))
set_option maxRecDepth 100000 in
set_option maxHeartbeats 4000000 in
theorem zk_isRefused (l : Launch) {D : va_G} {cI cJ cZ cP cS cM : ClassId} {L : List Nat} {sz : Nat} {f : Nat → va_E} (o : Nat) (S : zS2) (why : Int) (hI : mI S) (hwhy : 0 ≤ why ∧ why ≤ 4) : zMi l yX12_isRefused wsX12_isRefused 0 0 D (zT cI cJ cZ cP cS cM) L sz (zMO cI cJ o S f) [.ref o, .int (zI why)] (fun zv gv => zv = (zm_isRefused S why).1 ∧ gv = zMO cI cJ o (zm_isRefused S why).2 f ∧ mI (zm_isRefused S why).2 ∧ (∀ kk ii : Nat, ¬ kk = 2 → (zm_isRefused S why).2 kk ii = S kk ii) ∧ zv = 0) := by
  refine zWalk.met (nL := 2) (ret := (some .boolean)) (cc := cX12_isRefused) (by decide) rfl (Nat.le_of_ble_eq_true rfl) ?_
  intro pg en st mi ag bl mt cd ls CX hW hl
  have CX : zC pg st mi ag mt cd cX12_isRefused 2 (some .boolean) RX12 wsX12_isRefused := CX
  generalize hQ : MQ bl _ ag st 0 0 _ = Q
  have hX0 := CX.1
  have hB0 := CX.2.1
  have hl : lv_has ls 2 [(0, .ref o), (1, .int (zI why))] := hl
  obtain ⟨H, eH⟩ : ∃ H, H = st.heap := ⟨_, rfl⟩
  obtain ⟨locs, eL⟩ : ∃ L : List Loc, L = [] := ⟨_, rfl⟩
  have hW : zW D (zT cI cJ cZ cP cS cM) L (zQ L sz) st (zMO cI cJ o S f) st.heap H locs := by rw [eH, eL]; exact hW
  suffices hgo : W pg l en ({ frames := 0, cells := 0, slots := 0, locals := 0 } : Room) st mi ag bl mt cd H locs 0 0 Q (F0 mi 0 ls []) by rw [eH, eL] at hgo; exact hgo
  clear eH eL
  have hpb := hI.s10
  refine lv_aload_n hX0 hB0 dX12_isRefused_0 rfl (lv_at hl 0 rfl) ?_
  refine z_get (Cn := RX12) (T := TX12) (N := 37) CX hW (v := .ref (o + 2)) zMO_0 rfl (fun w h => List.mem_cons_of_mem _ (List.mem_append_right _ h)) 2 (by decide) (List.mem_of_getElem? (i := 1) rfl) rfl rfl dX12_isRefused_1 ?_
  refine lv_iload_n hX0 hB0 dX12_isRefused_4 rfl (lv_at hl 1 rfl) ?_
  refine lv_dup2_11 hX0 hB0 dX12_isRefused_5 rfl rfl ?_
  refine z_iald (z := S 2 why.toNat) CX hW zMO_2 0 rfl (by refine ⟨?_, ?_, ?_⟩ <;> omega) rfl dX12_isRefused_6 ?_
  refine lv_iconst (v := zI 1) hX0 hB0 dX12_isRefused_7 rfl ?_
  refine z_iadd (z := (S 2 why.toNat) + 1) CX dX12_isRefused_8 rfl ?_
  obtain ⟨S9, e9⟩ : ∃ q, za S 2 why.toNat ((S 2 why.toNat) + 1) = q := ⟨_, rfl⟩
  refine z_iast CX hW zMO_2 0 rfl (by refine ⟨?_, ?_, ?_⟩ <;> omega) (g := zMO cI cJ o S9 f) (zMO_w2.trans (by rw [← e9]; rfl)) dX12_isRefused_9 (fun H locs hW => ?_)
  have hI9 : mI S9 := e9 ▸ hI.w2 
  refine lv_iconst (v := zI 0) hX0 hB0 dX12_isRefused_10 rfl ?_
  have hE : zm_isRefused S why = (0, S9) := by unfold zm_isRefused; exact zlet_e e9 rfl
  have hFr : ∀ kk ii : Nat, ¬ kk = 2 → S9 kk ii = S kk ii := fun kk ii hk => (show S9 kk ii = S kk ii from by rw [← e9]; exact za_ne (by omega))
  rw [← hQ]
  exact z_iret (z := 0) CX hW (by rw [hE]; exact ⟨rfl, rfl, hI9, hFr, (show (0 : Int) = 0 from by omega)⟩) rfl dX12_isRefused_11
theorem zshn : ∀ n : Nat, n < 32 → ((zI (n : Int) &&& 31).toBitVec.smod 32).toNat = n := by decide +kernel
theorem zshri {x s : Int} (hx : -2147483648 ≤ x ∧ x ≤ 2147483647) (hs : 0 ≤ s ∧ s < 32) : (zI x >>> (zI s &&& 31)).toInt = x / 2 ^ s.toNat := by
  have h := pk_shr (zI x) (zI s &&& 31) s.toNat (by have q := zshn s.toNat (by omega); rw [Int.toNat_of_nonneg hs.1] at q; exact q)
  rw [h, zI_toInt hx.1 hx.2, Int.shiftRight_eq_div_pow]
  rfl
theorem zshr {x s : Int} (hx : -2147483648 ≤ x ∧ x ≤ 2147483647) (hs : 0 ≤ s ∧ s < 32) : (zI x >>> (zI s &&& 31)) &&& zI 255 = zI (zbyt x s) := by
  rw [zmask, zshri hx hs]
  rfl
/-- a letter of a name -/
def zlt5 (x i : Int) : Int := x / 2 ^ i.toNat % 32
theorem zlt5_rng (x i : Int) : 0 ≤ zlt5 x i ∧ zlt5 x i ≤ 31 := by
  unfold zlt5
  have := zmr (x / 2 ^ i.toNat) (p := 32) (by decide)
  omega
theorem zmask5 (y : Int32) : y &&& zI 31 = zI (y.toInt % 32) := by
  have h := Jvm.Kit.i32_mask y (zI 31) (k := 5) (by decide) (by decide)
  rw [← Int32.ofInt_toInt (y &&& zI 31), h]
  rfl
theorem zshr5 {x s : Int} (hx : -2147483648 ≤ x ∧ x ≤ 2147483647) (hs : 0 ≤ s ∧ s < 32) : (zI x >>> (zI s &&& 31)) &&& zI 31 = zI (zlt5 x s) := by
  rw [zmask5, zshri hx hs]
  rfl
def zm_lays_L2 (v : Int) : Int → zS2 → zS2 := fun i2 s2 => (fun (S2 : zS2) => zlet (za S2 1 (((S2 0 1) + i2).toNat) (zbyt v (24 - 8 * i2))) (fun S30 => S30)) s2
def zm_lays (S : zS2) (v : Int) : zS2 := zlet (zfor (zm_lays_L2 v) 0 S (3 + 1 - 0 : Int).toNat) (fun S2 => zlet (za S2 0 1 ((S2 0 1) + 4)) (fun S44 => S44))
set_option maxRecDepth 100000 in
set_option maxHeartbeats 4000000 in
theorem zk_lays (l : Launch) {D : va_G} {cI cJ cZ cP cS cM : ClassId} {L : List Nat} {sz : Nat} {f : Nat → va_E} (o : Nat) (S : zS2) (v : Int) (hI : mI S) (hv : -2147483648 ≤ v ∧ v ≤ 2147483647) (htp : S 0 1 + 4 ≤ 1000) : zMv l yX12_lays wsX12_lays 0 0 D (zT cI cJ cZ cP cS cM) L sz (zMO cI cJ o S f) [.ref o, .int (zI v)] (fun gv => gv = zMO cI cJ o (zm_lays S v) f ∧ mI (zm_lays S v) ∧ (∀ kk ii : Nat, ¬ (kk = 0 ∧ ii = 1) ∧ ¬ kk = 1 → (zm_lays S v) kk ii = S kk ii) ∧ (zm_lays S v) 0 1 = S 0 1 + 4) := by
  refine zWalk.met (nL := 3) (ret := none) (cc := cX12_lays) (by decide) rfl (Nat.le_of_ble_eq_true rfl) ?_
  intro pg en st mi ag bl mt cd ls CX hW hl
  have CX : zC pg st mi ag mt cd cX12_lays 3 none RX12 wsX12_lays := CX
  generalize hQ : MQ bl _ ag st 0 0 _ = Q
  have hX0 := CX.1
  have hB0 := CX.2.1
  have hl : lv_has ls 3 [(0, .ref o), (1, .int (zI v))] := hl
  obtain ⟨H, eH⟩ : ∃ H, H = st.heap := ⟨_, rfl⟩
  obtain ⟨locs, eL⟩ : ∃ L : List Loc, L = [] := ⟨_, rfl⟩
  have hW : zW D (zT cI cJ cZ cP cS cM) L (zQ L sz) st (zMO cI cJ o S f) st.heap H locs := by rw [eH, eL]; exact hW
  suffices hgo : W pg l en ({ frames := 0, cells := 0, slots := 0, locals := 0 } : Room) st mi ag bl mt cd H locs 0 0 Q (F0 mi 0 ls []) by rw [eH, eL] at hgo; exact hgo
  clear eH eL
  have hpb := hI.s10
  refine lv_iconst (v := zI 0) hX0 hB0 dX12_lays_0 rfl ?_
  refine lv_istore_n (lv' := [(2, .int (zI 0)), (0, .ref o), (1, .int (zI v))]) hX0 hB0 dX12_lays_1 rfl hl (by decide) rfl (fun ls hl => ?_)
  have hL2 : ∀ (fu : Nat) (i2 : Int) (S2 : zS2), ((0 ≤ i2 ∧ i2 ≤ 3 + 1) ∧ zfor (zm_lays_L2 v) 0 S (i2 - 0).toNat = S2 ∧ mI S2 ∧ (∀ kk ii : Nat, ¬ kk = 1 → S2 kk ii = S kk ii)) → (3 + 1 - i2).toNat < fu → ∀ (H : Heap) (locs : List Loc) (ls : Array Slot), zW D (zT cI cJ cZ cP cS cM) L (zQ L sz) st (zMO cI cJ o S2 f) st.heap H locs → lv_has ls 3 [(2, .int (zI i2)), (0, .ref o), (1, .int (zI v))] → W pg l en ({ frames := 0, cells := 0, slots := 0, locals := 0 } : Room) st mi ag bl mt cd H locs 0 0 Q (F0 mi 2 ls []) := by
    intro fu
    induction fu with
    | zero => intro i2 S2 _ hfu; exact absurd hfu (Nat.not_lt_zero _)
    | succ fu ih2 =>
      intro i2 S2 hinv hfu2 H locs ls hW hl
      obtain ⟨⟨hlo2, hhi2⟩, hz2, hI2, hf2⟩ := hinv
      have hp2 := hI2.s10
      have t2_1 : S2 0 1 = S 0 1 := hf2 0 1 (by omega)
      refine lv_iload_n hX0 hB0 dX12_lays_2 rfl (lv_at hl 0 rfl) ?_
      refine lv_iconst (v := zI 4) hX0 hB0 dX12_lays_3 rfl ?_
      refine z_icmp_ge (tgt := 37) CX dX12_lays_4 (by decide) (by constructor <;> omega) (by constructor <;> omega) (fun c_4 => ?_) (fun c_4 => ?_)
      ·
        have e2 : zfor (zm_lays_L2 v) 0 S (3 + 1 - 0 : Int).toNat = S2 := by rw [show (3 + 1 - 0 : Int).toNat = (i2 - 0).toNat by omega]; exact hz2
        refine lv_aload_n hX0 hB0 dX12_lays_37 rfl (lv_at hl 1 rfl) ?_
        refine lv_dup hX0 hB0 dX12_lays_38 rfl ?_
        refine z_get (Cn := RX12) (T := TX12) (N := 37) CX hW (v := .int (zI (S2 0 1))) zMO_0 rfl (fun w h => List.mem_cons_of_mem _ (List.mem_append_right _ h)) 1 (by decide) (List.mem_of_getElem? (i := 2) rfl) rfl rfl dX12_lays_39 ?_
        have hr39 := hI2.s1
        refine lv_iconst (v := zI 4) hX0 hB0 dX12_lays_42 rfl ?_
        refine z_iadd (z := (S2 0 1) + 4) CX dX12_lays_43 rfl ?_
        obtain ⟨S44, e44⟩ : ∃ q, za S2 0 1 ((S2 0 1) + 4) = q := ⟨_, rfl⟩
        refine z_put (Cn := RX12) (T := TX12) (N := 37) CX hW (v := .int (zI ((S2 0 1) + 4))) zMO_0 rfl (fun w h => List.mem_cons_of_mem _ (List.mem_append_right _ h)) tyX12 tyX12_ok nmX12 1 (by decide) (List.mem_of_getElem? (i := 2) rfl) rfl rfl rfl rfl (Nat.le_of_ble_eq_true rfl) (g := zMO cI cJ o S44 f) (zMO_s1.trans (by rw [e44])) dX12_lays_44 (fun H locs hW => ?_)
        have hI44 : mI S44 := e44 ▸ hI2.v1 (by constructor <;> omega)
        have t44_1 : S44 0 1 = (S2 0 1) + 4 := by rw [← e44]; exact za_same
        have hE : zm_lays S v = S44 := by unfold zm_lays; exact zlet_e e2 (zlet_e e44 rfl)
        have hFr : ∀ kk ii : Nat, ¬ (kk = 0 ∧ ii = 1) ∧ ¬ kk = 1 → S44 kk ii = S kk ii := fun kk ii hk => ((show S44 kk ii = S2 kk ii from by rw [← e44]; exact za_ne (by omega))).trans (hf2 kk ii (by omega))
        rw [← hQ]
        exact z_vret CX hW (by rw [hE]; exact ⟨rfl, hI44, hFr, (show S44 0 1 = S 0 1 + 4 from by omega)⟩) dX12_lays_47
      ·
        refine lv_aload_n hX0 hB0 dX12_lays_7 rfl (lv_at hl 1 rfl) ?_
        refine z_get (Cn := RX12) (T := TX12) (N := 37) CX hW (v := .ref (o + 1)) zMO_0 rfl (fun w h => List.mem_cons_of_mem _ (List.mem_append_right _ h)) 0 (by decide) (List.mem_of_getElem? (i := 1) rfl) rfl rfl dX12_lays_8 ?_
        refine lv_aload_n hX0 hB0 dX12_lays_11 rfl (lv_at hl 1 rfl) ?_
        refine z_get (Cn := RX12) (T := TX12) (N := 37) CX hW (v := .int (zI (S2 0 1))) zMO_0 rfl (fun w h => List.mem_cons_of_mem _ (List.mem_append_right _ h)) 1 (by decide) (List.mem_of_getElem? (i := 2) rfl) rfl rfl dX12_lays_12 ?_
        have hr12 := hI2.s1
        refine lv_iload_n hX0 hB0 dX12_lays_15 rfl (lv_at hl 0 rfl) ?_
        refine z_iadd (z := (S2 0 1) + i2) CX dX12_lays_16 rfl ?_
        refine lv_iload_n hX0 hB0 dX12_lays_17 rfl (lv_at hl 2 rfl) ?_
        refine lv_bipush (v := zI 24) hX0 hB0 dX12_lays_18 (by decide) ?_
        refine lv_bipush (v := zI 8) hX0 hB0 dX12_lays_20 (by decide) ?_
        refine lv_iload_n hX0 hB0 dX12_lays_22 rfl (lv_at hl 0 rfl) ?_
        refine z_imul (z := 8 * i2) CX dX12_lays_23 rfl ?_
        refine z_isub (z := 24 - (8 * i2)) CX dX12_lays_24 rfl ?_
        refine lv_ishr hX0 hB0 dX12_lays_25 ?_
        refine lv_sipush (v := zI 255) hX0 hB0 dX12_lays_26 (by decide) ?_
        refine lv_iand hX0 hB0 dX12_lays_29 ?_
        rw [zshr (by omega) (by omega)]
        have hby := zbyt_rng v (24 - 8 * i2)
        obtain ⟨S30, e30⟩ : ∃ q, za S2 1 (((S2 0 1) + i2).toNat) (zbyt v (24 - 8 * i2)) = q := ⟨_, rfl⟩
        refine z_iast CX hW zMO_1 0 rfl (by refine ⟨?_, ?_, ?_⟩ <;> omega) (g := zMO cI cJ o S30 f) (zMO_w1.trans (by rw [← e30]; rfl)) dX12_lays_30 (fun H locs hW => ?_)
        have hI30 : mI S30 := e30 ▸ hI2.w1 (by constructor <;> omega)
        have t30_1 : S30 0 1 = S2 0 1 := by rw [← e30]; exact za_ne (by omega)
        refine lv_iinc (v := zI (i2 + 1)) (lv' := [(2, .int (zI (i2 + 1))), (0, .ref o), (1, .int (zI v))]) hX0 hB0 dX12_lays_31 hl (k := 0) rfl (zI_add _ _) (by decide) rfl (fun ls hl => ?_)
        refine lv_goto (tgt := 2) hX0 hB0 dX12_lays_34 (by decide) ?_
        exact ih2 (i2 + 1) S30 ⟨⟨by omega, by omega⟩, (zfor_s _ _ _ (by omega)).trans ((congrArg (zm_lays_L2 v i2) hz2).trans (by unfold zm_lays_L2; exact zlet_e e30 rfl)), hI30, fun kk ii hk => ((show S30 kk ii = S2 kk ii from by rw [← e30]; exact za_ne (by omega))).trans (hf2 kk ii (by omega))⟩ (by omega) H locs ls hW (lv_sub hl [0, 1, 2] rfl)
  exact hL2 _ 0 S ⟨⟨by omega, by omega⟩, zfor_0 _ _ _, hI, fun kk ii hk => rfl⟩ (Nat.lt_succ_self _) H locs ls hW (lv_sub hl [0, 1, 2] rfl)
def zm_feed (S : zS2) (a : Int) (b : Int) (c : Int) (d : Int) (e : Int) : Int × zS2 := (if (S 0 1) + 20 ≤ 1000 then zlet (zm_lays S a) (fun S21 => zlet (zm_lays S21 b) (fun S26 => zlet (zm_lays S26 c) (fun S31 => zlet (zm_lays S31 d) (fun S37 => zlet (zm_lays S37 e) (fun S43 => (S43 0 1, S43)))))) else zlet (zm_refuses S 0) (fun q15 => (fun (z15 : Int) (S15 : zS2) => (z15, S15)) q15.1 q15.2))
set_option maxRecDepth 100000 in
set_option maxHeartbeats 4000000 in
theorem zk_feed (l : Launch) {D : va_G} {cI cJ cZ cP cS cM : ClassId} {L : List Nat} {sz : Nat} {f : Nat → va_E} (o : Nat) (S : zS2) (a : Int) (b : Int) (c : Int) (d : Int) (e : Int) (hI : mI S) (ha : -2147483648 ≤ a ∧ a ≤ 2147483647) (hb : -2147483648 ≤ b ∧ b ≤ 2147483647) (hc : -2147483648 ≤ c ∧ c ≤ 2147483647) (hd : -2147483648 ≤ d ∧ d ≤ 2147483647) (he : -2147483648 ≤ e ∧ e ≤ 2147483647) : zMi l yX12_feed wsX12_feed 1 22 D (zT cI cJ cZ cP cS cM) L sz (zMO cI cJ o S f) [.ref o, .int (zI a), .int (zI b), .int (zI c), .int (zI d), .int (zI e)] (fun zv gv => zv = (zm_feed S a b c d e).1 ∧ gv = zMO cI cJ o (zm_feed S a b c d e).2 f ∧ mI (zm_feed S a b c d e).2 ∧ (∀ kk ii : Nat, ¬ (kk = 0 ∧ ii = 1) ∧ ¬ kk = 1 ∧ ¬ kk = 2 → (zm_feed S a b c d e).2 kk ii = S kk ii) ∧ -1 ≤ zv ∧ zv ≤ 1000) := by
  refine zWalk.met (nL := 6) (ret := (some .int)) (cc := cX12_feed) (by decide) rfl (Nat.le_of_ble_eq_true rfl) ?_
  intro pg en st mi ag bl mt cd ls CX hW hl
  have CX : zC pg st mi ag mt cd cX12_feed 6 (some .int) RX12 wsX12_feed := CX
  generalize hQ : MQ bl _ ag st 0 0 _ = Q
  have hX0 := CX.1
  have hB0 := CX.2.1
  have hl : lv_has ls 6 [(0, .ref o), (1, .int (zI a)), (2, .int (zI b)), (3, .int (zI c)), (4, .int (zI d)), (5, .int (zI e))] := hl
  obtain ⟨H, eH⟩ : ∃ H, H = st.heap := ⟨_, rfl⟩
  obtain ⟨locs, eL⟩ : ∃ L : List Loc, L = [] := ⟨_, rfl⟩
  have hW : zW D (zT cI cJ cZ cP cS cM) L (zQ L sz) st (zMO cI cJ o S f) st.heap H locs := by rw [eH, eL]; exact hW
  suffices hgo : W pg l en ({ frames := 1, cells := 0, slots := 0, locals := 22 } : Room) st mi ag bl mt cd H locs 0 0 Q (F0 mi 0 ls []) by rw [eH, eL] at hgo; exact hgo
  clear eH eL
  have hpb := hI.s10
  refine lv_aload_n hX0 hB0 dX12_feed_0 rfl (lv_at hl 0 rfl) ?_
  refine z_get (Cn := RX12) (T := TX12) (N := 37) CX hW (v := .int (zI (S 0 1))) zMO_0 rfl (fun w h => List.mem_cons_of_mem _ (List.mem_append_right _ h)) 1 (by decide) (List.mem_of_getElem? (i := 1) rfl) rfl rfl dX12_feed_1 ?_
  have hr1 := hI.s1
  refine lv_bipush (v := zI 20) hX0 hB0 dX12_feed_4 (by decide) ?_
  refine z_iadd (z := (S 0 1) + 20) CX dX12_feed_6 rfl ?_
  refine lv_sipush (v := zI 1000) hX0 hB0 dX12_feed_7 (by decide) ?_
  refine z_icmp_le (tgt := 19) CX dX12_feed_10 (by decide) (by constructor <;> omega) (by constructor <;> omega) (fun c_10 => ?_) (fun c_10 => ?_)
  ·
    refine lv_aload_n hX0 hB0 dX12_feed_19 rfl (lv_at hl 0 rfl) ?_
    refine lv_iload_n hX0 hB0 dX12_feed_20 rfl (lv_at hl 1 rfl) ?_
    refine z_callv hW (va_runV (C := RX12) (As := [.int (zI a)]) (rest := []) CX.fix (zk_lays l o S a hI (by constructor <;> omega) (by omega)) (cwV 1 CX.fix.2.2.2.2 gX12_feed_X12_lays rfl rfl rfl (by decide +kernel) ⟨Nat.le_of_ble_eq_true rfl, Nat.le_of_ble_eq_true rfl⟩) (z_preV CX hW (r := (RX12, TX12, 37)) zMO_0 rfl) rfl rfl hl.1 rfl (lv_room (Nat.le_of_ble_eq_true rfl)) dX12_feed_21 ⟨Nat.zero_le _, Nat.zero_le _⟩) (fun gn H locs hok hW => ?_)
    obtain ⟨hg, hI21, hf21, hq21⟩ := hok
    obtain ⟨S21, e21⟩ : ∃ q, zm_lays S a = q := ⟨_, rfl⟩
    rw [e21] at hg hI21 hf21
    skip
    try rw [e21] at hq21
    rw [hg] at hW
    clear hg
    refine lv_aload_n hX0 hB0 dX12_feed_24 rfl (lv_at hl 0 rfl) ?_
    refine lv_iload_n hX0 hB0 dX12_feed_25 rfl (lv_at hl 2 rfl) ?_
    refine z_callv hW (va_runV (C := RX12) (As := [.int (zI b)]) (rest := []) CX.fix (zk_lays l o S21 b hI21 (by constructor <;> omega) (by omega)) (cwV 1 CX.fix.2.2.2.2 gX12_feed_X12_lays rfl rfl rfl (by decide +kernel) ⟨Nat.le_of_ble_eq_true rfl, Nat.le_of_ble_eq_true rfl⟩) (z_preV CX hW (r := (RX12, TX12, 37)) zMO_0 rfl) rfl rfl hl.1 rfl (lv_room (Nat.le_of_ble_eq_true rfl)) dX12_feed_26 ⟨Nat.zero_le _, Nat.zero_le _⟩) (fun gn H locs hok hW => ?_)
    obtain ⟨hg, hI26, hf26, hq26⟩ := hok
    obtain ⟨S26, e26⟩ : ∃ q, zm_lays S21 b = q := ⟨_, rfl⟩
    rw [e26] at hg hI26 hf26
    skip
    try rw [e26] at hq26
    rw [hg] at hW
    clear hg
    refine lv_aload_n hX0 hB0 dX12_feed_29 rfl (lv_at hl 0 rfl) ?_
    refine lv_iload_n hX0 hB0 dX12_feed_30 rfl (lv_at hl 3 rfl) ?_
    refine z_callv hW (va_runV (C := RX12) (As := [.int (zI c)]) (rest := []) CX.fix (zk_lays l o S26 c hI26 (by constructor <;> omega) (by omega)) (cwV 1 CX.fix.2.2.2.2 gX12_feed_X12_lays rfl rfl rfl (by decide +kernel) ⟨Nat.le_of_ble_eq_true rfl, Nat.le_of_ble_eq_true rfl⟩) (z_preV CX hW (r := (RX12, TX12, 37)) zMO_0 rfl) rfl rfl hl.1 rfl (lv_room (Nat.le_of_ble_eq_true rfl)) dX12_feed_31 ⟨Nat.zero_le _, Nat.zero_le _⟩) (fun gn H locs hok hW => ?_)
    obtain ⟨hg, hI31, hf31, hq31⟩ := hok
    obtain ⟨S31, e31⟩ : ∃ q, zm_lays S26 c = q := ⟨_, rfl⟩
    rw [e31] at hg hI31 hf31
    skip
    try rw [e31] at hq31
    rw [hg] at hW
    clear hg
    refine lv_aload_n hX0 hB0 dX12_feed_34 rfl (lv_at hl 0 rfl) ?_
    refine lv_iload hX0 hB0 dX12_feed_35 (lv_at hl 4 rfl) ?_
    refine z_callv hW (va_runV (C := RX12) (As := [.int (zI d)]) (rest := []) CX.fix (zk_lays l o S31 d hI31 (by constructor <;> omega) (by omega)) (cwV 1 CX.fix.2.2.2.2 gX12_feed_X12_lays rfl rfl rfl (by decide +kernel) ⟨Nat.le_of_ble_eq_true rfl, Nat.le_of_ble_eq_true rfl⟩) (z_preV CX hW (r := (RX12, TX12, 37)) zMO_0 rfl) rfl rfl hl.1 rfl (lv_room (Nat.le_of_ble_eq_true rfl)) dX12_feed_37 ⟨Nat.zero_le _, Nat.zero_le _⟩) (fun gn H locs hok hW => ?_)
    obtain ⟨hg, hI37, hf37, hq37⟩ := hok
    obtain ⟨S37, e37⟩ : ∃ q, zm_lays S31 d = q := ⟨_, rfl⟩
    rw [e37] at hg hI37 hf37
    skip
    try rw [e37] at hq37
    rw [hg] at hW
    clear hg
    refine lv_aload_n hX0 hB0 dX12_feed_40 rfl (lv_at hl 0 rfl) ?_
    refine lv_iload hX0 hB0 dX12_feed_41 (lv_at hl 5 rfl) ?_
    refine z_callv hW (va_runV (C := RX12) (As := [.int (zI e)]) (rest := []) CX.fix (zk_lays l o S37 e hI37 (by constructor <;> omega) (by omega)) (cwV 1 CX.fix.2.2.2.2 gX12_feed_X12_lays rfl rfl rfl (by decide +kernel) ⟨Nat.le_of_ble_eq_true rfl, Nat.le_of_ble_eq_true rfl⟩) (z_preV CX hW (r := (RX12, TX12, 37)) zMO_0 rfl) rfl rfl hl.1 rfl (lv_room (Nat.le_of_ble_eq_true rfl)) dX12_feed_43 ⟨Nat.zero_le _, Nat.zero_le _⟩) (fun gn H locs hok hW => ?_)
    obtain ⟨hg, hI43, hf43, hq43⟩ := hok
    obtain ⟨S43, e43⟩ : ∃ q, zm_lays S37 e = q := ⟨_, rfl⟩
    rw [e43] at hg hI43 hf43
    skip
    try rw [e43] at hq43
    rw [hg] at hW
    clear hg
    refine lv_aload_n hX0 hB0 dX12_feed_46 rfl (lv_at hl 0 rfl) ?_
    refine z_get (Cn := RX12) (T := TX12) (N := 37) CX hW (v := .int (zI (S43 0 1))) zMO_0 rfl (fun w h => List.mem_cons_of_mem _ (List.mem_append_right _ h)) 1 (by decide) (List.mem_of_getElem? (i := 1) rfl) rfl rfl dX12_feed_47 ?_
    have hr47 := hI43.s1
    have hE : zm_feed S a b c d e = (S43 0 1, S43) := by unfold zm_feed; exact zif_t c_10 (zlet_e e21 (zlet_e e26 (zlet_e e31 (zlet_e e37 (zlet_e e43 rfl)))))
    have hFr : ∀ kk ii : Nat, ¬ (kk = 0 ∧ ii = 1) ∧ ¬ kk = 1 ∧ ¬ kk = 2 → S43 kk ii = S kk ii := fun kk ii hk => (((((hf43 kk ii (by omega))).trans (hf37 kk ii (by omega))).trans (hf31 kk ii (by omega))).trans (hf26 kk ii (by omega))).trans (hf21 kk ii (by omega))
    rw [← hQ]
    exact z_iret (z := S43 0 1) CX hW (by rw [hE]; exact ⟨rfl, rfl, hI43, hFr, (show -1 ≤ (S43 0 1) ∧ (S43 0 1) ≤ 1000 from by omega)⟩) rfl dX12_feed_50
  ·
    have d_10 : ¬ (S 0 1) + 20 ≤ 1000 := by omega
    refine lv_aload_n hX0 hB0 dX12_feed_13 rfl (lv_at hl 0 rfl) ?_
    refine lv_iconst (v := zI 0) hX0 hB0 dX12_feed_14 rfl ?_
    refine z_calli hW (va_runV (C := RX12) (As := [.int (zI 0)]) (rest := []) CX.fix (zk_refuses l o S 0 hI (by constructor <;> omega)) (cwV 1 CX.fix.2.2.2.2 gX12_feed_X12_refuses rfl rfl rfl (by decide +kernel) ⟨Nat.le_of_ble_eq_true rfl, Nat.le_of_ble_eq_true rfl⟩) (z_preV CX hW (r := (RX12, TX12, 37)) zMO_0 rfl) rfl rfl hl.1 rfl (lv_room (Nat.le_of_ble_eq_true rfl)) dX12_feed_15 ⟨Nat.zero_le _, Nat.zero_le _⟩) (fun z15 gn H locs hok hW => ?_)
    obtain ⟨hz15, hg, hI15, hf15, hq15⟩ := hok
    obtain ⟨S15, hS15⟩ : ∃ q, q = (zm_refuses S 0).2 := ⟨_, rfl⟩
    rw [← hS15] at hg hI15 hf15
    have t15_1 : S15 0 1 = S 0 1 := hf15 0 1 (by omega)
    skip
    try rw [← hS15] at hq15
    rw [hg] at hW
    clear hg
    have e15 : zm_refuses S 0 = (z15, S15) := Prod.ext hz15.symm hS15.symm
    clear hz15 hS15
    have hE : zm_feed S a b c d e = (z15, S15) := by unfold zm_feed; exact zif_f d_10 (zlet_e e15 rfl)
    have hFr : ∀ kk ii : Nat, ¬ (kk = 0 ∧ ii = 1) ∧ ¬ kk = 1 ∧ ¬ kk = 2 → S15 kk ii = S kk ii := fun kk ii hk => (hf15 kk ii (by omega))
    rw [← hQ]
    exact z_iret (z := z15) CX hW (by rw [hE]; exact ⟨rfl, rfl, hI15, hFr, (show -1 ≤ z15 ∧ z15 ≤ 1000 from by omega)⟩) rfl dX12_feed_18
def zm_end (S : zS2) (n : Int) : Int × zS2 := (if n < 0 then zlet (zm_isRefused S 0) (fun q14 => (fun (z14 : Int) (S14 : zS2) => (z14, S14)) q14.1 q14.2) else (if n ≤ S 0 1 then zlet (za S 0 1 n) (fun S20 => (1, S20)) else zlet (zm_isRefused S 0) (fun q14 => (fun (z14 : Int) (S14 : zS2) => (z14, S14)) q14.1 q14.2)))
set_option maxRecDepth 100000 in
set_option maxHeartbeats 4000000 in
theorem zk_end (l : Launch) {D : va_G} {cI cJ cZ cP cS cM : ClassId} {L : List Nat} {sz : Nat} {f : Nat → va_E} (o : Nat) (S : zS2) (n : Int) (hI : mI S) (hn : -2147483648 ≤ n ∧ n ≤ 2147483647) : zMi l yX12_end wsX12_end 1 21 D (zT cI cJ cZ cP cS cM) L sz (zMO cI cJ o S f) [.ref o, .int (zI n)] (fun zv gv => zv = (zm_end S n).1 ∧ gv = zMO cI cJ o (zm_end S n).2 f ∧ mI (zm_end S n).2 ∧ (∀ kk ii : Nat, ¬ (kk = 0 ∧ ii = 1) ∧ ¬ kk = 2 → (zm_end S n).2 kk ii = S kk ii) ∧ 0 ≤ zv ∧ zv ≤ 1) := by
  refine zWalk.met (nL := 2) (ret := (some .boolean)) (cc := cX12_end) (by decide) rfl (Nat.le_of_ble_eq_true rfl) ?_
  intro pg en st mi ag bl mt cd ls CX hW hl
  have CX : zC pg st mi ag mt cd cX12_end 2 (some .boolean) RX12 wsX12_end := CX
  generalize hQ : MQ bl _ ag st 0 0 _ = Q
  have hX0 := CX.1
  have hB0 := CX.2.1
  have hl : lv_has ls 2 [(0, .ref o), (1, .int (zI n))] := hl
  obtain ⟨H, eH⟩ : ∃ H, H = st.heap := ⟨_, rfl⟩
  obtain ⟨locs, eL⟩ : ∃ L : List Loc, L = [] := ⟨_, rfl⟩
  have hW : zW D (zT cI cJ cZ cP cS cM) L (zQ L sz) st (zMO cI cJ o S f) st.heap H locs := by rw [eH, eL]; exact hW
  suffices hgo : W pg l en ({ frames := 1, cells := 0, slots := 0, locals := 21 } : Room) st mi ag bl mt cd H locs 0 0 Q (F0 mi 0 ls []) by rw [eH, eL] at hgo; exact hgo
  clear eH eL
  have hpb := hI.s10
  refine lv_iload_n hX0 hB0 dX12_end_0 rfl (lv_at hl 1 rfl) ?_
  refine z_if_lt (tgt := 12) CX dX12_end_1 (by decide) (by constructor <;> omega) (fun c_1 => ?_) (fun c_1 => ?_)
  ·
    refine lv_aload_n hX0 hB0 dX12_end_12 rfl (lv_at hl 0 rfl) ?_
    refine lv_iconst (v := zI 0) hX0 hB0 dX12_end_13 rfl ?_
    refine z_calli hW (va_runV (C := RX12) (As := [.int (zI 0)]) (rest := []) CX.fix (zk_isRefused l o S 0 hI (by constructor <;> omega)) (cwV 1 CX.fix.2.2.2.2 gX12_end_X12_isRefused rfl rfl rfl (by decide +kernel) ⟨Nat.le_of_ble_eq_true rfl, Nat.le_of_ble_eq_true rfl⟩) (z_preV CX hW (r := (RX12, TX12, 37)) zMO_0 rfl) rfl rfl hl.1 rfl (lv_room (Nat.le_of_ble_eq_true rfl)) dX12_end_14 ⟨Nat.zero_le _, Nat.zero_le _⟩) (fun z14 gn H locs hok hW => ?_)
    obtain ⟨hz14, hg, hI14, hf14, hq14⟩ := hok
    obtain ⟨S14, hS14⟩ : ∃ q, q = (zm_isRefused S 0).2 := ⟨_, rfl⟩
    rw [← hS14] at hg hI14 hf14
    skip
    try rw [← hS14] at hq14
    rw [hg] at hW
    clear hg
    have e14 : zm_isRefused S 0 = (z14, S14) := Prod.ext hz14.symm hS14.symm
    clear hz14 hS14
    have hE : zm_end S n = (z14, S14) := by unfold zm_end; exact zif_t c_1 (zlet_e e14 rfl)
    have hFr : ∀ kk ii : Nat, ¬ (kk = 0 ∧ ii = 1) ∧ ¬ kk = 2 → S14 kk ii = S kk ii := fun kk ii hk => (hf14 kk ii (by omega))
    rw [← hQ]
    exact z_iret (z := z14) CX hW (by rw [hE]; exact ⟨rfl, rfl, hI14, hFr, (show 0 ≤ z14 ∧ z14 ≤ 1 from by omega)⟩) (zI_bool (by omega)) dX12_end_17
  ·
    have d_1 : ¬ n < 0 := by omega
    refine lv_iload_n hX0 hB0 dX12_end_4 rfl (lv_at hl 1 rfl) ?_
    refine lv_aload_n hX0 hB0 dX12_end_5 rfl (lv_at hl 0 rfl) ?_
    refine z_get (Cn := RX12) (T := TX12) (N := 37) CX hW (v := .int (zI (S 0 1))) zMO_0 rfl (fun w h => List.mem_cons_of_mem _ (List.mem_append_right _ h)) 1 (by decide) (List.mem_of_getElem? (i := 1) rfl) rfl rfl dX12_end_6 ?_
    have hr6 := hI.s1
    refine z_icmp_le (tgt := 18) CX dX12_end_9 (by decide) (by constructor <;> omega) (by constructor <;> omega) (fun c_9 => ?_) (fun c_9 => ?_)
    ·
      refine lv_aload_n hX0 hB0 dX12_end_18 rfl (lv_at hl 0 rfl) ?_
      refine lv_iload_n hX0 hB0 dX12_end_19 rfl (lv_at hl 1 rfl) ?_
      obtain ⟨S20, e20⟩ : ∃ q, za S 0 1 n = q := ⟨_, rfl⟩
      refine z_put (Cn := RX12) (T := TX12) (N := 37) CX hW (v := .int (zI n)) zMO_0 rfl (fun w h => List.mem_cons_of_mem _ (List.mem_append_right _ h)) tyX12 tyX12_ok nmX12 1 (by decide) (List.mem_of_getElem? (i := 1) rfl) rfl rfl rfl rfl (Nat.le_of_ble_eq_true rfl) (g := zMO cI cJ o S20 f) (zMO_s1.trans (by rw [e20])) dX12_end_20 (fun H locs hW => ?_)
      have hI20 : mI S20 := e20 ▸ hI.v1 (by constructor <;> omega)
      refine lv_iconst (v := zI 1) hX0 hB0 dX12_end_23 rfl ?_
      have hE : zm_end S n = (1, S20) := by unfold zm_end; exact zif_f d_1 (zif_t c_9 (zlet_e e20 rfl))
      have hFr : ∀ kk ii : Nat, ¬ (kk = 0 ∧ ii = 1) ∧ ¬ kk = 2 → S20 kk ii = S kk ii := fun kk ii hk => (show S20 kk ii = S kk ii from by rw [← e20]; exact za_ne (by omega))
      rw [← hQ]
      exact z_iret (z := 1) CX hW (by rw [hE]; exact ⟨rfl, rfl, hI20, hFr, (show 0 ≤ (1 : Int) ∧ (1 : Int) ≤ 1 from by omega)⟩) rfl dX12_end_24
    ·
      have d_9 : ¬ n ≤ S 0 1 := by omega
      refine lv_aload_n hX0 hB0 dX12_end_12 rfl (lv_at hl 0 rfl) ?_
      refine lv_iconst (v := zI 0) hX0 hB0 dX12_end_13 rfl ?_
      refine z_calli hW (va_runV (C := RX12) (As := [.int (zI 0)]) (rest := []) CX.fix (zk_isRefused l o S 0 hI (by constructor <;> omega)) (cwV 1 CX.fix.2.2.2.2 gX12_end_X12_isRefused rfl rfl rfl (by decide +kernel) ⟨Nat.le_of_ble_eq_true rfl, Nat.le_of_ble_eq_true rfl⟩) (z_preV CX hW (r := (RX12, TX12, 37)) zMO_0 rfl) rfl rfl hl.1 rfl (lv_room (Nat.le_of_ble_eq_true rfl)) dX12_end_14 ⟨Nat.zero_le _, Nat.zero_le _⟩) (fun z14 gn H locs hok hW => ?_)
      obtain ⟨hz14, hg, hI14, hf14, hq14⟩ := hok
      obtain ⟨S14, hS14⟩ : ∃ q, q = (zm_isRefused S 0).2 := ⟨_, rfl⟩
      rw [← hS14] at hg hI14 hf14
      skip
      try rw [← hS14] at hq14
      rw [hg] at hW
      clear hg
      have e14 : zm_isRefused S 0 = (z14, S14) := Prod.ext hz14.symm hS14.symm
      clear hz14 hS14
      have hE : zm_end S n = (z14, S14) := by unfold zm_end; exact zif_f d_1 (zif_f d_9 (zlet_e e14 rfl))
      have hFr : ∀ kk ii : Nat, ¬ (kk = 0 ∧ ii = 1) ∧ ¬ kk = 2 → S14 kk ii = S kk ii := fun kk ii hk => (hf14 kk ii (by omega))
      rw [← hQ]
      exact z_iret (z := z14) CX hW (by rw [hE]; exact ⟨rfl, rfl, hI14, hFr, (show 0 ≤ z14 ∧ z14 ≤ 1 from by omega)⟩) (zI_bool (by omega)) dX12_end_17
end ZMe
