section ZTx3
/-- a SUM begins -/
def zbg1 (o : Nat) (S : Nat → Nat → Int) : Nat → Nat → Int := zset (zset S (20 + o) (zone 0)) (70 + o) (zone 1)
def zbg2 (o : Nat) (q : Int × (Nat → Nat → Int)) : Nat → Nat → Int := zset q.2 2 (zup (q.2 2) o q.1)
def zbg (n : Int) (T : Nat → Int) (o : Nat) (S : Nat → Nat → Int) : Nat → Nat → Int := zbg2 o (ztk n T 45 (zbg1 o S))
/-- a TERM ends -/
def zct (o : Nat) (S : Nat → Nat → Int) : Nat → Nat → Int := zset (zset S (20 + o) (zaddS (S (20 + o)) (S (70 + o)) 0 0 (if S 2 o = 0 then 1 else S 0 3 - 1) (S 0 3))) (70 + o) (zone 1)
/-- what is canonical -/
def zpI (S : Nat → Nat → Int) (o : Int) : Prop := ∀ k : Nat, (k : Int) ≤ o → zcan (S 0 3) (S (20 + k)) ∧ zcan (S 0 3) (S (70 + k))
def zmI (S : Nat → Nat → Int) : Prop := ∀ k, 0 ≤ S 2 k ∧ S 2 k ≤ 1
def zsI (S : Nat → Nat → Int) : Prop := ∀ k, 0 ≤ S 3 k ∧ S 3 k ≤ 1000
theorem zcan_zone {p n : Int} (hp : 2 ≤ p) (h : n = 0 ∨ n = 1) : zcan p (zone n) := zone_can (by omega) (by omega)
theorem zbg_num (n : Int) (T : Nat → Int) (o : Nat) (S : Nat → Nat → Int) {i : Nat} (h : i ≠ 0) : zbg n T o S 0 i = S 0 i := by
  unfold zbg zbg2
  rw [zset_ne _ _ (by decide), ztk_num _ _ _ _ h]
  unfold zbg1
  rw [zset_ne _ _ (by omega), zset_ne _ _ (by omega)]
theorem zbg_pl {n : Int} {T : Nat → Int} (o : Nat) {S : Nat → Nat → Int} (h : 0 ≤ S 0 0 ∧ S 0 0 ≤ n) : S 0 0 ≤ zbg n T o S 0 0 ∧ zbg n T o S 0 0 ≤ n := by
  unfold zbg zbg2
  rw [zset_ne _ _ (by decide)]
  have e : zbg1 o S 0 0 = S 0 0 := by
    unfold zbg1
    rw [zset_ne _ _ (by omega), zset_ne _ _ (by omega)]
  have := ztk_rng (n := n) (T := T) (sg := 45) (S := zbg1 o S) (by rw [e]; exact h) (by decide)
  rw [e] at this
  exact this
theorem zbg_k (n : Int) (T : Nat → Int) (o : Nat) (S : Nat → Nat → Int) {k : Nat} (h0 : k ≠ 0) (h2 : k ≠ 2) (h3 : k ≠ 20 + o) (h4 : k ≠ 70 + o) : zbg n T o S k = S k := by
  unfold zbg zbg2
  rw [zset_ne _ _ h2, ztk_k _ _ _ _ h0]
  unfold zbg1
  rw [zset_ne _ _ h4, zset_ne _ _ h3]
theorem zbg_own {n : Int} {T : Nat → Int} {o : Nat} {S : Nat → Nat → Int} (ho : o < 41) : zbg n T o S (20 + o) = zone 0 ∧ zbg n T o S (70 + o) = zone 1 := by
  unfold zbg zbg2
  refine ⟨?_, ?_⟩
  · rw [zset_ne _ _ (by omega), ztk_k _ _ _ _ (by omega)]
    unfold zbg1
    rw [zset_ne _ _ (by omega), zset_self]
  · rw [zset_ne _ _ (by omega), ztk_k _ _ _ _ (by omega)]
    unfold zbg1
    rw [zset_self]
theorem zbg_m {n : Int} {T : Nat → Int} {o : Nat} {S : Nat → Nat → Int} (h : zmI S) : zmI (zbg n T o S) := fun k => by
  unfold zbg zbg2
  rw [zset_self]
  unfold zup
  split
  · have := ztk_01 n T 45 (zbg1 o S)
    omega
  · rw [ztk_k _ _ _ _ (by decide)]
    unfold zbg1
    rw [zset_ne _ _ (by omega), zset_ne _ _ (by omega)]
    exact h k
theorem zbg_p {n : Int} {T : Nat → Int} {o : Nat} {S : Nat → Nat → Int} (ho : o < 41) (hp : 2 ≤ S 0 3) (h : zpI S ((o : Int) - 1)) : zpI (zbg n T o S) o := fun k hk => by
  rw [zbg_num _ _ _ _ (by decide)]
  by_cases e : k = o
  · subst e
    rw [(zbg_own ho).1, (zbg_own ho).2]
    exact ⟨zcan_zone hp (Or.inl rfl), zcan_zone hp (Or.inr rfl)⟩
  · rw [zbg_k _ _ _ _ (by omega) (by omega) (by omega) (by omega), zbg_k _ _ _ _ (by omega) (by omega) (by omega) (by omega)]
    exact h k (by omega)
theorem zct_num (o : Nat) (S : Nat → Nat → Int) (i : Nat) : zct o S 0 i = S 0 i := by
  unfold zct
  rw [zset_ne _ _ (by omega), zset_ne _ _ (by omega)]
theorem zct_k (o : Nat) (S : Nat → Nat → Int) {k : Nat} (h3 : k ≠ 20 + o) (h4 : k ≠ 70 + o) : zct o S k = S k := by
  unfold zct
  rw [zset_ne _ _ h4, zset_ne _ _ h3]
theorem zct_own {o : Nat} {S : Nat → Nat → Int} (ho : o < 41) : zct o S (20 + o) = zaddS (S (20 + o)) (S (70 + o)) 0 0 (if S 2 o = 0 then 1 else S 0 3 - 1) (S 0 3) ∧ zct o S (70 + o) = zone 1 := by
  unfold zct
  exact ⟨by rw [zset_ne _ _ (by omega), zset_self], zset_self _ _ _⟩
theorem zct_p {o : Nat} {S : Nat → Nat → Int} {x : Int} (ho : o < 41) (hp : 2 ≤ S 0 3) (h : zpI S x) (hx : (o : Int) ≤ x) : zpI (zct o S) x := fun k hk => by
  rw [zct_num]
  by_cases e : k = o
  · subst e
    rw [(zct_own ho).1, (zct_own ho).2]
    exact ⟨zaddS_can (by omega) (Int.le_refl _) (h k hk).1, zcan_zone hp (Or.inr rfl)⟩
  · by_cases e2 : 20 + k = 70 + o
    · rw [e2, (zct_own ho).2, zct_k _ _ (by omega) (by omega)]
      exact ⟨zcan_zone hp (Or.inr rfl), (h k hk).2⟩
    · by_cases e3 : 70 + k = 20 + o
      · omega
      · rw [zct_k _ _ (by omega) e2, zct_k _ _ e3 (by omega)]
        exact h k hk
set_option maxRecDepth 100000 in
set_option maxHeartbeats 4000000 in
/-- Reader.begin -/
theorem c_begin (l : Launch) {D : va_G} {cI cJ cZ cP cS cM : ClassId} {L : List Nat} {sz : Nat} {f : Nat → va_E} (r : Nat) (n : Int) (T : Nat → Int) (S : Nat → Nat → Int) (k : Int) (hT : ztape n T) (hpl : 0 ≤ S 0 0 ∧ S 0 0 ≤ n) (hk : 0 ≤ k ∧ k ≤ 40) : zMv l yX3_begin wsX3_begin 3 62 D (zT cI cJ cZ cP cS cM) L sz (zRO cI cP cZ r n T S f) [.ref r, .int (zI k)] (fun g => g = zRO cI cP cZ r n T (zbg n T k.toNat S) f) := by
  refine zWalk.met (nL := 2) (ret := none) (cc := cX3_begin) (by decide) rfl (Nat.le_of_ble_eq_true rfl) ?_
  intro pg en st mi ag bl mt cd ls CX hW hl
  have CX : zC pg st mi ag mt cd cX3_begin 2 none RX3 wsX3_begin := CX
  generalize hQ : MQ bl _ ag st 0 0 _ = Q
  have hX0 := CX.1
  have hB0 := CX.2.1
  have hl : lv_has ls 2 [(0, .ref r), (1, .int (zI k))] := hl
  obtain ⟨H, eH⟩ : ∃ H, H = st.heap := ⟨_, rfl⟩
  obtain ⟨locs, eL⟩ : ∃ L : List Loc, L = [] := ⟨_, rfl⟩
  have hW : zW D (zT cI cJ cZ cP cS cM) L (zQ L sz) st (zRO cI cP cZ r n T S f) st.heap H locs := by rw [eH, eL]; exact hW
  suffices hgo : W pg l en ({ frames := 3, cells := 0, slots := 0, locals := 62 } : Room) st mi ag bl mt cd H locs 0 0 Q (F0 mi 0 ls []) by rw [eH, eL] at hgo; exact hgo
  clear eH eL
  have hn0 := hT.1
  have hn1 := hT.2.1
  refine lv_aload_n hX0 hB0 dX3_begin_0 rfl (lv_at hl 0 rfl) ?_
  refine z_get (Cn := RX3) (T := TX3) (N := 13) CX hW (v := .ref (r + 17)) zRO_0 rfl (fun w h => List.mem_cons_of_mem _ (List.mem_append_left _ (List.mem_append_right _ h))) 5 (by decide) (List.mem_of_getElem? (i := 1) rfl) rfl rfl dX3_begin_1 ?_
  refine lv_iload_n hX0 hB0 dX3_begin_4 rfl (lv_at hl 1 rfl) ?_
  refine z_aald (o := some (r + 27 + 4 * k.toNat)) CX hW zRO_17 3 rfl (by refine ⟨?_, ?_, ?_⟩ <;> omega) rfl dX3_begin_5 ?_
  refine lv_iconst (v := zI 0) hX0 hB0 dX3_begin_6 rfl ?_
  refine z_callv hW (va_runV (C := RX2) (As := [.int (zI 0)]) (rest := []) CX.fix (c_setTo l (f := zRO cI cP cZ r n T S f) (r + 27 + 4 * k.toNat) (r + 27 + 4 * k.toNat + 1) (S (20 + k.toNat)) 0 (zRO_s0 (k := k.toNat) (by omega)) (zRO_s1 (k := k.toNat) (by omega))) (cwV 1 CX.fix.2.2.2.2 gX3_begin_X2_setTo rfl rfl rfl (by decide +kernel) ⟨Nat.le_of_ble_eq_true rfl, Nat.le_of_ble_eq_true rfl⟩) (z_preV CX hW (r := (RX2, TX2, 1)) (zRO_s0 (k := k.toNat) (by omega)) rfl) rfl rfl hl.1 rfl (lv_room (Nat.le_of_ble_eq_true rfl)) dX3_begin_7 ⟨Nat.zero_le _, Nat.zero_le _⟩) (fun gn H locs hok7 hW => ?_)
  have eg : gn = va_up (zRO cI cP cZ r n T S f) (r + 27 + 4 * k.toNat + 1) (zA cI 25 (zone 0)) := hok7
  rw [eg] at hW
  clear eg
  refine lv_aload_n hX0 hB0 dX3_begin_10 rfl (lv_at hl 0 rfl) ?_
  refine z_get (Cn := RX3) (T := TX3) (N := 13) CX hW (v := .ref (r + 18)) ((va_up_ne _ _ (by omega)).trans zRO_0) rfl (fun w h => List.mem_cons_of_mem _ (List.mem_append_left _ (List.mem_append_right _ h))) 6 (by decide) (List.mem_of_getElem? (i := 2) rfl) rfl rfl dX3_begin_11 ?_
  refine lv_iload_n hX0 hB0 dX3_begin_14 rfl (lv_at hl 1 rfl) ?_
  refine z_aald (o := some (r + 29 + 4 * k.toNat)) CX hW ((va_up_ne _ _ (by omega)).trans zRO_18) 3 rfl (by refine ⟨?_, ?_, ?_⟩ <;> omega) rfl dX3_begin_15 ?_
  refine lv_iconst (v := zI 1) hX0 hB0 dX3_begin_16 rfl ?_
  refine z_callv hW (va_runV (C := RX2) (As := [.int (zI 1)]) (rest := []) CX.fix (c_setTo l (f := va_up (zRO cI cP cZ r n T S f) (r + 27 + 4 * k.toNat + 1) (zA cI 25 (zone 0))) (r + 29 + 4 * k.toNat) (r + 29 + 4 * k.toNat + 1) (S (70 + k.toNat)) 1 ((va_up_ne _ _ (by omega)).trans (zRO_p0 (k := k.toNat) (by omega))) ((va_up_ne _ _ (by omega)).trans (zRO_p1 (k := k.toNat) (by omega)))) (cwV 1 CX.fix.2.2.2.2 gX3_begin_X2_setTo rfl rfl rfl (by decide +kernel) ⟨Nat.le_of_ble_eq_true rfl, Nat.le_of_ble_eq_true rfl⟩) (z_preV CX hW (r := (RX2, TX2, 1)) ((va_up_ne _ _ (by omega)).trans (zRO_p0 (k := k.toNat) (by omega))) rfl) rfl rfl hl.1 rfl (lv_room (Nat.le_of_ble_eq_true rfl)) dX3_begin_17 ⟨Nat.zero_le _, Nat.zero_le _⟩) (fun gn H locs hok17 hW => ?_)
  have eg : gn = va_up (va_up (zRO cI cP cZ r n T S f) (r + 27 + 4 * k.toNat + 1) (zA cI 25 (zone 0))) (r + 29 + 4 * k.toNat + 1) (zA cI 25 (zone 1)) := hok17
  rw [eg] at hW
  clear eg
  refine lv_aload_n hX0 hB0 dX3_begin_20 rfl (lv_at hl 0 rfl) ?_
  refine z_get (Cn := RX3) (T := TX3) (N := 13) CX hW (v := .ref (r + 19)) ((va_up_ne _ _ (by omega)).trans ((va_up_ne _ _ (by omega)).trans zRO_0)) rfl (fun w h => List.mem_cons_of_mem _ (List.mem_append_left _ (List.mem_append_right _ h))) 7 (by decide) (List.mem_of_getElem? (i := 3) rfl) rfl rfl dX3_begin_21 ?_
  refine lv_iload_n hX0 hB0 dX3_begin_24 rfl (lv_at hl 1 rfl) ?_
  refine lv_aload_n hX0 hB0 dX3_begin_25 rfl (lv_at hl 0 rfl) ?_
  refine lv_bipush (v := zI 45) hX0 hB0 dX3_begin_26 (by decide) ?_
  have hW := hW
  rw [zRO_ws (k := k.toNat) (by omega)] at hW
  rw [zRO_wp (k := k.toNat) (by omega)] at hW
  obtain ⟨S1, hS1⟩ : ∃ q : Nat → Nat → Int, q = zset (zset S (20 + k.toNat) (zone 0)) (70 + k.toNat) (zone 1) := ⟨_, rfl⟩
  rw [← hS1] at hW
  have hS1_0 : S1 0 0 = S 0 0 := by rw [hS1]; first | rfl | (simp [zsr, zsd, zset]; done) | ((repeat rw [zset_ne _ _ (by omega)]); first | done | rfl | (simp [zsr, zsd, zset]; done)) | (unfold zsd; (repeat (first | rw [zset_self] | rw [zset_ne _ _ (by omega)])); first | done | rfl | (simp; done))
  have hS1_1 : S1 0 1 = S 0 1 := by rw [hS1]; first | rfl | (simp [zsr, zsd, zset]; done) | ((repeat rw [zset_ne _ _ (by omega)]); first | done | rfl | (simp [zsr, zsd, zset]; done)) | (unfold zsd; (repeat (first | rw [zset_self] | rw [zset_ne _ _ (by omega)])); first | done | rfl | (simp; done))
  have hS1_2 : S1 0 2 = S 0 2 := by rw [hS1]; first | rfl | (simp [zsr, zsd, zset]; done) | ((repeat rw [zset_ne _ _ (by omega)]); first | done | rfl | (simp [zsr, zsd, zset]; done)) | (unfold zsd; (repeat (first | rw [zset_self] | rw [zset_ne _ _ (by omega)])); first | done | rfl | (simp; done))
  have hS1_3 : S1 0 3 = S 0 3 := by rw [hS1]; first | rfl | (simp [zsr, zsd, zset]; done) | ((repeat rw [zset_ne _ _ (by omega)]); first | done | rfl | (simp [zsr, zsd, zset]; done)) | (unfold zsd; (repeat (first | rw [zset_self] | rw [zset_ne _ _ (by omega)])); first | done | rfl | (simp; done))
  have hS1_4 : S1 0 4 = S 0 4 := by rw [hS1]; first | rfl | (simp [zsr, zsd, zset]; done) | ((repeat rw [zset_ne _ _ (by omega)]); first | done | rfl | (simp [zsr, zsd, zset]; done)) | (unfold zsd; (repeat (first | rw [zset_self] | rw [zset_ne _ _ (by omega)])); first | done | rfl | (simp; done))
  skip
  refine z_calli hW (va_runV (C := RX3) (As := [.int (zI 45)]) (rest := [.int (zI k), .ref (r + 19)]) CX.fix (c_take l (f := f) r n T S1 45 hT (by omega) (by omega)) (cwV 1 CX.fix.2.2.2.2 gX3_begin_X3_take rfl rfl rfl (by decide +kernel) ⟨Nat.le_of_ble_eq_true rfl, Nat.le_of_ble_eq_true rfl⟩) (z_preV CX hW (r := (RX3, TX3, 13)) zRO_0 rfl) rfl rfl hl.1 rfl (lv_room (Nat.le_of_ble_eq_true rfl)) dX3_begin_28 ⟨Nat.zero_le _, Nat.zero_le _⟩) (fun zv gn H locs hok28 hW => ?_)
  obtain ⟨hz28, hg28⟩ := hok28
  obtain ⟨z28, ezv28⟩ : ∃ q, q = zv := ⟨_, rfl⟩
  rw [← ezv28] at hz28 ⊢
  clear ezv28
  rw [hg28] at hW
  clear hg28
  obtain ⟨S28c, hS28c⟩ : ∃ q : Nat → Nat → Int, q = (ztk n T 45 S1).2 := ⟨_, rfl⟩
  rw [← hS28c] at hW
  have hS28c_1 : S28c 0 1 = S1 0 1 := by rw [hS28c]; first | rfl | (simp [zsr, zsd, zset]; done) | (exact ztk_num n T 45 S1 (by decide))
  have hS28c_2 : S28c 0 2 = S1 0 2 := by rw [hS28c]; first | rfl | (simp [zsr, zsd, zset]; done) | (exact ztk_num n T 45 S1 (by decide))
  have hS28c_3 : S28c 0 3 = S1 0 3 := by rw [hS28c]; first | rfl | (simp [zsr, zsd, zset]; done) | (exact ztk_num n T 45 S1 (by decide))
  have hS28c_4 : S28c 0 4 = S1 0 4 := by rw [hS28c]; first | rfl | (simp [zsr, zsd, zset]; done) | (exact ztk_num n T 45 S1 (by decide))
  have hb28 : z28 = 0 ∨ z28 = 1 := by rw [hz28]; exact ztk_01 n T 45 S1
  have htr28 := ztk_rng (T := T) (sg := 45) (show 0 ≤ S1 0 0 ∧ S1 0 0 ≤ n by omega) (by omega)
  rw [← hS28c] at htr28
  refine z_zast CX hW zRO_19 2 rfl (by refine ⟨?_, ?_, ?_⟩ <;> omega) (by rcases hb28 with h9 | h9 <;> simp [h9]) (g := va_up (zRO cI cP cZ r n T S28c f) (r + 19) (zA cZ 41 (zup (S28c 2) k.toNat z28))) rfl dX3_begin_31 (fun H locs hW => ?_)
  have hW := hW
  rw [zRO_w19] at hW
  obtain ⟨S2, hS2⟩ : ∃ q : Nat → Nat → Int, q = zset S28c 2 (zup (S28c 2) k.toNat z28) := ⟨_, rfl⟩
  rw [← hS2] at hW
  have hS2_0 : S2 0 0 = S28c 0 0 := by rw [hS2]; first | rfl | (simp [zsr, zsd, zset]; done) | ((repeat rw [zset_ne _ _ (by omega)]); first | done | rfl | (simp [zsr, zsd, zset]; done)) | (unfold zsd; (repeat (first | rw [zset_self] | rw [zset_ne _ _ (by omega)])); first | done | rfl | (simp; done))
  have hS2_1 : S2 0 1 = S28c 0 1 := by rw [hS2]; first | rfl | (simp [zsr, zsd, zset]; done) | ((repeat rw [zset_ne _ _ (by omega)]); first | done | rfl | (simp [zsr, zsd, zset]; done)) | (unfold zsd; (repeat (first | rw [zset_self] | rw [zset_ne _ _ (by omega)])); first | done | rfl | (simp; done))
  have hS2_2 : S2 0 2 = S28c 0 2 := by rw [hS2]; first | rfl | (simp [zsr, zsd, zset]; done) | ((repeat rw [zset_ne _ _ (by omega)]); first | done | rfl | (simp [zsr, zsd, zset]; done)) | (unfold zsd; (repeat (first | rw [zset_self] | rw [zset_ne _ _ (by omega)])); first | done | rfl | (simp; done))
  have hS2_3 : S2 0 3 = S28c 0 3 := by rw [hS2]; first | rfl | (simp [zsr, zsd, zset]; done) | ((repeat rw [zset_ne _ _ (by omega)]); first | done | rfl | (simp [zsr, zsd, zset]; done)) | (unfold zsd; (repeat (first | rw [zset_self] | rw [zset_ne _ _ (by omega)])); first | done | rfl | (simp; done))
  have hS2_4 : S2 0 4 = S28c 0 4 := by rw [hS2]; first | rfl | (simp [zsr, zsd, zset]; done) | ((repeat rw [zset_ne _ _ (by omega)]); first | done | rfl | (simp [zsr, zsd, zset]; done)) | (unfold zsd; (repeat (first | rw [zset_self] | rw [zset_ne _ _ (by omega)])); first | done | rfl | (simp; done))
  skip
  rw [← hQ]
  refine z_vret CX hW ?_ dX3_begin_32
  rw [hS2]; unfold zbg zbg2; rw [hz28, hS28c]
  unfold zbg1
  rw [← hS1]
set_option maxRecDepth 100000 in
set_option maxHeartbeats 4000000 in
/-- Reader.closeTerm -/
theorem c_closeTerm (l : Launch) {D : va_G} {cI cJ cZ cP cS cM : ClassId} {L : List Nat} {sz : Nat} {f : Nat → va_E} (r : Nat) (n : Int) (T : Nat → Int) (S : Nat → Nat → Int) (k : Int) (hT : ztape n T) (hk : 0 ≤ k ∧ k ≤ 40) (h3 : 2 ≤ S 0 3 ∧ S 0 3 ≤ 31) (hmi : zmI S) (hc1 : zcan (S 0 3) (S (20 + k.toNat))) (hc2 : zcan (S 0 3) (S (70 + k.toNat))) : zMv l yX3_closeTerm wsX3_closeTerm 2 53 D (zT cI cJ cZ cP cS cM) L sz (zRO cI cP cZ r n T S f) [.ref r, .int (zI k)] (fun g => g = zRO cI cP cZ r n T (zct k.toNat S) f) := by
  refine zWalk.met (nL := 2) (ret := none) (cc := cX3_closeTerm) (by decide) rfl (Nat.le_of_ble_eq_true rfl) ?_
  intro pg en st mi ag bl mt cd ls CX hW hl
  have CX : zC pg st mi ag mt cd cX3_closeTerm 2 none RX3 wsX3_closeTerm := CX
  generalize hQ : MQ bl _ ag st 0 0 _ = Q
  have hX0 := CX.1
  have hB0 := CX.2.1
  have hl : lv_has ls 2 [(0, .ref r), (1, .int (zI k))] := hl
  obtain ⟨H, eH⟩ : ∃ H, H = st.heap := ⟨_, rfl⟩
  obtain ⟨locs, eL⟩ : ∃ L : List Loc, L = [] := ⟨_, rfl⟩
  have hW : zW D (zT cI cJ cZ cP cS cM) L (zQ L sz) st (zRO cI cP cZ r n T S f) st.heap H locs := by rw [eH, eL]; exact hW
  suffices hgo : W pg l en ({ frames := 2, cells := 0, slots := 0, locals := 53 } : Room) st mi ag bl mt cd H locs 0 0 Q (F0 mi 0 ls []) by rw [eH, eL] at hgo; exact hgo
  clear eH eL
  have hn0 := hT.1
  have hn1 := hT.2.1
  refine lv_aload_n hX0 hB0 dX3_closeTerm_0 rfl (lv_at hl 0 rfl) ?_
  refine z_get (Cn := RX3) (T := TX3) (N := 13) CX hW (v := .ref (r + 17)) zRO_0 rfl (fun w h => List.mem_cons_of_mem _ (List.mem_append_left _ (List.mem_append_left _ (List.mem_append_right _ h)))) 5 (by decide) (List.mem_of_getElem? (i := 1) rfl) rfl rfl dX3_closeTerm_1 ?_
  refine lv_iload_n hX0 hB0 dX3_closeTerm_4 rfl (lv_at hl 1 rfl) ?_
  refine z_aald (o := some (r + 27 + 4 * k.toNat)) CX hW zRO_17 3 rfl (by refine ⟨?_, ?_, ?_⟩ <;> omega) rfl dX3_closeTerm_5 ?_
  refine lv_aload_n hX0 hB0 dX3_closeTerm_6 rfl (lv_at hl 0 rfl) ?_
  refine z_get (Cn := RX3) (T := TX3) (N := 13) CX hW (v := .ref (r + 18)) zRO_0 rfl (fun w h => List.mem_cons_of_mem _ (List.mem_append_left _ (List.mem_append_left _ (List.mem_append_right _ h)))) 6 (by decide) (List.mem_of_getElem? (i := 2) rfl) rfl rfl dX3_closeTerm_7 ?_
  refine lv_iload_n hX0 hB0 dX3_closeTerm_10 rfl (lv_at hl 1 rfl) ?_
  refine z_aald (o := some (r + 29 + 4 * k.toNat)) CX hW zRO_18 3 rfl (by refine ⟨?_, ?_, ?_⟩ <;> omega) rfl dX3_closeTerm_11 ?_
  refine lv_aload_n hX0 hB0 dX3_closeTerm_12 rfl (lv_at hl 0 rfl) ?_
  refine z_get (Cn := RX3) (T := TX3) (N := 13) CX hW (v := .ref (r + 19)) zRO_0 rfl (fun w h => List.mem_cons_of_mem _ (List.mem_append_left _ (List.mem_append_left _ (List.mem_append_right _ h)))) 7 (by decide) (List.mem_of_getElem? (i := 3) rfl) rfl rfl dX3_closeTerm_13 ?_
  refine lv_iload_n hX0 hB0 dX3_closeTerm_16 rfl (lv_at hl 1 rfl) ?_
  refine z_zald (z := (S 2) k.toNat) CX hW zRO_19 2 rfl (by refine ⟨?_, ?_, ?_⟩ <;> omega) rfl dX3_closeTerm_17 ?_
  have hmk := hmi k.toNat
  refine z_if_eq (tgt := 33) CX dX3_closeTerm_18 (by decide) (by constructor <;> omega) (fun c_18 => ?_) (fun c_18 => ?_)
  ·
    refine lv_iconst (v := zI 1) hX0 hB0 dX3_closeTerm_33 rfl ?_
    refine lv_aload_n hX0 hB0 dX3_closeTerm_34 rfl (lv_at hl 0 rfl) ?_
    refine z_get (Cn := RX3) (T := TX3) (N := 13) CX hW (v := .ref (r + 1)) zRO_0 rfl (fun w h => List.mem_cons_of_mem _ (List.mem_append_left _ (List.mem_append_left _ (List.mem_append_right _ h)))) 3 (by decide) (List.mem_of_getElem? (i := 4) rfl) rfl rfl dX3_closeTerm_35 ?_
    refine z_get (Cn := RX7) (T := TX7) (N := 4) CX hW (v := .int (zI (S 0 3))) zRO_1 rfl (fun w h => List.mem_cons_of_mem _ (List.mem_append_left _ (List.mem_append_right _ h))) 0 (by decide) (List.mem_of_getElem? (i := 5) rfl) rfl rfl dX3_closeTerm_38 ?_
    refine z_callv hW (va_runV (C := RX2) (As := [.ref (r + 29 + 4 * k.toNat), .int (zI 1), .int (zI (S 0 3))]) (rest := []) CX.fix (c_add l (f := zRO cI cP cZ r n T S f) (r + 27 + 4 * k.toNat) (r + 27 + 4 * k.toNat + 1) (S (20 + k.toNat)) (r + 29 + 4 * k.toNat) (r + 29 + 4 * k.toNat + 1) (S (70 + k.toNat)) 1 (S 0 3) (zRO_s0 (k := k.toNat) (by omega)) (zRO_s1 (k := k.toNat) (by omega)) (zRO_p0 (k := k.toNat) (by omega)) (zRO_p1 (k := k.toNat) (by omega)) (by omega) (by first | exact zcan_le hc1 (by omega) | exact zcan_le hc2 (by omega)) (by first | exact zcan_le hc1 (by omega) | exact zcan_le hc2 (by omega)) (by constructor <;> omega) (by constructor <;> omega)) (cwV 3 CX.fix.2.2.2.2 gX3_closeTerm_X2_add rfl rfl rfl (by decide +kernel) ⟨Nat.le_of_ble_eq_true rfl, Nat.le_of_ble_eq_true rfl⟩) (z_preV CX hW (r := (RX2, TX2, 1)) (zRO_s0 (k := k.toNat) (by omega)) rfl) rfl rfl hl.1 rfl (lv_room (Nat.le_of_ble_eq_true rfl)) dX3_closeTerm_41 ⟨Nat.zero_le _, Nat.zero_le _⟩) (fun gn H locs hok41 hW => ?_)
    have eg : gn = va_up (zRO cI cP cZ r n T S f) (r + 27 + 4 * k.toNat + 1) (zA cI 25 (zaddS (S (20 + k.toNat)) (S (70 + k.toNat)) 0 0 1 (S 0 3))) := hok41
    rw [eg] at hW
    clear eg
    refine lv_aload_n hX0 hB0 dX3_closeTerm_44 rfl (lv_at hl 0 rfl) ?_
    refine z_get (Cn := RX3) (T := TX3) (N := 13) CX hW (v := .ref (r + 18)) ((va_up_ne _ _ (by omega)).trans zRO_0) rfl (fun w h => List.mem_cons_of_mem _ (List.mem_append_left _ (List.mem_append_left _ (List.mem_append_right _ h)))) 6 (by decide) (List.mem_of_getElem? (i := 2) rfl) rfl rfl dX3_closeTerm_45 ?_
    refine lv_iload_n hX0 hB0 dX3_closeTerm_48 rfl (lv_at hl 1 rfl) ?_
    refine z_aald (o := some (r + 29 + 4 * k.toNat)) CX hW ((va_up_ne _ _ (by omega)).trans zRO_18) 3 rfl (by refine ⟨?_, ?_, ?_⟩ <;> omega) rfl dX3_closeTerm_49 ?_
    refine lv_iconst (v := zI 1) hX0 hB0 dX3_closeTerm_50 rfl ?_
    refine z_callv hW (va_runV (C := RX2) (As := [.int (zI 1)]) (rest := []) CX.fix (c_setTo l (f := va_up (zRO cI cP cZ r n T S f) (r + 27 + 4 * k.toNat + 1) (zA cI 25 (zaddS (S (20 + k.toNat)) (S (70 + k.toNat)) 0 0 1 (S 0 3)))) (r + 29 + 4 * k.toNat) (r + 29 + 4 * k.toNat + 1) (S (70 + k.toNat)) 1 ((va_up_ne _ _ (by omega)).trans (zRO_p0 (k := k.toNat) (by omega))) ((va_up_ne _ _ (by omega)).trans (zRO_p1 (k := k.toNat) (by omega)))) (cwV 1 CX.fix.2.2.2.2 gX3_closeTerm_X2_setTo rfl rfl rfl (by decide +kernel) ⟨Nat.le_of_ble_eq_true rfl, Nat.le_of_ble_eq_true rfl⟩) (z_preV CX hW (r := (RX2, TX2, 1)) ((va_up_ne _ _ (by omega)).trans (zRO_p0 (k := k.toNat) (by omega))) rfl) rfl rfl hl.1 rfl (lv_room (Nat.le_of_ble_eq_true rfl)) dX3_closeTerm_51 ⟨Nat.zero_le _, Nat.zero_le _⟩) (fun gn H locs hok51 hW => ?_)
    have eg : gn = va_up (va_up (zRO cI cP cZ r n T S f) (r + 27 + 4 * k.toNat + 1) (zA cI 25 (zaddS (S (20 + k.toNat)) (S (70 + k.toNat)) 0 0 1 (S 0 3)))) (r + 29 + 4 * k.toNat + 1) (zA cI 25 (zone 1)) := hok51
    rw [eg] at hW
    clear eg
    have hW := hW
    rw [zRO_ws (k := k.toNat) (by omega)] at hW
    rw [zRO_wp (k := k.toNat) (by omega)] at hW
    obtain ⟨S1, hS1⟩ : ∃ q : Nat → Nat → Int, q = zset (zset S (20 + k.toNat) (zaddS (S (20 + k.toNat)) (S (70 + k.toNat)) 0 0 1 (S 0 3))) (70 + k.toNat) (zone 1) := ⟨_, rfl⟩
    rw [← hS1] at hW
    have hS1_0 : S1 0 0 = S 0 0 := by rw [hS1]; first | rfl | (simp [zsr, zsd, zset]; done) | ((repeat rw [zset_ne _ _ (by omega)]); first | done | rfl | (simp [zsr, zsd, zset]; done)) | (unfold zsd; (repeat (first | rw [zset_self] | rw [zset_ne _ _ (by omega)])); first | done | rfl | (simp; done))
    have hS1_1 : S1 0 1 = S 0 1 := by rw [hS1]; first | rfl | (simp [zsr, zsd, zset]; done) | ((repeat rw [zset_ne _ _ (by omega)]); first | done | rfl | (simp [zsr, zsd, zset]; done)) | (unfold zsd; (repeat (first | rw [zset_self] | rw [zset_ne _ _ (by omega)])); first | done | rfl | (simp; done))
    have hS1_2 : S1 0 2 = S 0 2 := by rw [hS1]; first | rfl | (simp [zsr, zsd, zset]; done) | ((repeat rw [zset_ne _ _ (by omega)]); first | done | rfl | (simp [zsr, zsd, zset]; done)) | (unfold zsd; (repeat (first | rw [zset_self] | rw [zset_ne _ _ (by omega)])); first | done | rfl | (simp; done))
    have hS1_3 : S1 0 3 = S 0 3 := by rw [hS1]; first | rfl | (simp [zsr, zsd, zset]; done) | ((repeat rw [zset_ne _ _ (by omega)]); first | done | rfl | (simp [zsr, zsd, zset]; done)) | (unfold zsd; (repeat (first | rw [zset_self] | rw [zset_ne _ _ (by omega)])); first | done | rfl | (simp; done))
    have hS1_4 : S1 0 4 = S 0 4 := by rw [hS1]; first | rfl | (simp [zsr, zsd, zset]; done) | ((repeat rw [zset_ne _ _ (by omega)]); first | done | rfl | (simp [zsr, zsd, zset]; done)) | (unfold zsd; (repeat (first | rw [zset_self] | rw [zset_ne _ _ (by omega)])); first | done | rfl | (simp; done))
    skip
    rw [← hQ]
    exact z_vret CX hW (by rw [hS1]; unfold zct; first | rw [if_pos c_18] | rw [if_neg c_18]) dX3_closeTerm_54
  ·
    refine lv_aload_n hX0 hB0 dX3_closeTerm_21 rfl (lv_at hl 0 rfl) ?_
    refine z_get (Cn := RX3) (T := TX3) (N := 13) CX hW (v := .ref (r + 1)) zRO_0 rfl (fun w h => List.mem_cons_of_mem _ (List.mem_append_left _ (List.mem_append_left _ (List.mem_append_right _ h)))) 3 (by decide) (List.mem_of_getElem? (i := 4) rfl) rfl rfl dX3_closeTerm_22 ?_
    refine z_get (Cn := RX7) (T := TX7) (N := 4) CX hW (v := .int (zI (S 0 3))) zRO_1 rfl (fun w h => List.mem_cons_of_mem _ (List.mem_append_left _ (List.mem_append_right _ h))) 0 (by decide) (List.mem_of_getElem? (i := 5) rfl) rfl rfl dX3_closeTerm_25 ?_
    refine lv_iconst (v := zI 1) hX0 hB0 dX3_closeTerm_28 rfl ?_
    refine z_isub (z := (S 0 3) - 1) CX dX3_closeTerm_29 rfl ?_
    refine lv_goto (tgt := 34) hX0 hB0 dX3_closeTerm_30 (by decide) ?_
    refine lv_aload_n hX0 hB0 dX3_closeTerm_34 rfl (lv_at hl 0 rfl) ?_
    refine z_get (Cn := RX3) (T := TX3) (N := 13) CX hW (v := .ref (r + 1)) zRO_0 rfl (fun w h => List.mem_cons_of_mem _ (List.mem_append_left _ (List.mem_append_left _ (List.mem_append_right _ h)))) 3 (by decide) (List.mem_of_getElem? (i := 4) rfl) rfl rfl dX3_closeTerm_35 ?_
    refine z_get (Cn := RX7) (T := TX7) (N := 4) CX hW (v := .int (zI (S 0 3))) zRO_1 rfl (fun w h => List.mem_cons_of_mem _ (List.mem_append_left _ (List.mem_append_right _ h))) 0 (by decide) (List.mem_of_getElem? (i := 5) rfl) rfl rfl dX3_closeTerm_38 ?_
    refine z_callv hW (va_runV (C := RX2) (As := [.ref (r + 29 + 4 * k.toNat), .int (zI ((S 0 3) - 1)), .int (zI (S 0 3))]) (rest := []) CX.fix (c_add l (f := zRO cI cP cZ r n T S f) (r + 27 + 4 * k.toNat) (r + 27 + 4 * k.toNat + 1) (S (20 + k.toNat)) (r + 29 + 4 * k.toNat) (r + 29 + 4 * k.toNat + 1) (S (70 + k.toNat)) ((S 0 3) - 1) (S 0 3) (zRO_s0 (k := k.toNat) (by omega)) (zRO_s1 (k := k.toNat) (by omega)) (zRO_p0 (k := k.toNat) (by omega)) (zRO_p1 (k := k.toNat) (by omega)) (by omega) (by first | exact zcan_le hc1 (by omega) | exact zcan_le hc2 (by omega)) (by first | exact zcan_le hc1 (by omega) | exact zcan_le hc2 (by omega)) (by constructor <;> omega) (by constructor <;> omega)) (cwV 3 CX.fix.2.2.2.2 gX3_closeTerm_X2_add rfl rfl rfl (by decide +kernel) ⟨Nat.le_of_ble_eq_true rfl, Nat.le_of_ble_eq_true rfl⟩) (z_preV CX hW (r := (RX2, TX2, 1)) (zRO_s0 (k := k.toNat) (by omega)) rfl) rfl rfl hl.1 rfl (lv_room (Nat.le_of_ble_eq_true rfl)) dX3_closeTerm_41 ⟨Nat.zero_le _, Nat.zero_le _⟩) (fun gn H locs hok41 hW => ?_)
    have eg : gn = va_up (zRO cI cP cZ r n T S f) (r + 27 + 4 * k.toNat + 1) (zA cI 25 (zaddS (S (20 + k.toNat)) (S (70 + k.toNat)) 0 0 ((S 0 3) - 1) (S 0 3))) := hok41
    rw [eg] at hW
    clear eg
    refine lv_aload_n hX0 hB0 dX3_closeTerm_44 rfl (lv_at hl 0 rfl) ?_
    refine z_get (Cn := RX3) (T := TX3) (N := 13) CX hW (v := .ref (r + 18)) ((va_up_ne _ _ (by omega)).trans zRO_0) rfl (fun w h => List.mem_cons_of_mem _ (List.mem_append_left _ (List.mem_append_left _ (List.mem_append_right _ h)))) 6 (by decide) (List.mem_of_getElem? (i := 2) rfl) rfl rfl dX3_closeTerm_45 ?_
    refine lv_iload_n hX0 hB0 dX3_closeTerm_48 rfl (lv_at hl 1 rfl) ?_
    refine z_aald (o := some (r + 29 + 4 * k.toNat)) CX hW ((va_up_ne _ _ (by omega)).trans zRO_18) 3 rfl (by refine ⟨?_, ?_, ?_⟩ <;> omega) rfl dX3_closeTerm_49 ?_
    refine lv_iconst (v := zI 1) hX0 hB0 dX3_closeTerm_50 rfl ?_
    refine z_callv hW (va_runV (C := RX2) (As := [.int (zI 1)]) (rest := []) CX.fix (c_setTo l (f := va_up (zRO cI cP cZ r n T S f) (r + 27 + 4 * k.toNat + 1) (zA cI 25 (zaddS (S (20 + k.toNat)) (S (70 + k.toNat)) 0 0 ((S 0 3) - 1) (S 0 3)))) (r + 29 + 4 * k.toNat) (r + 29 + 4 * k.toNat + 1) (S (70 + k.toNat)) 1 ((va_up_ne _ _ (by omega)).trans (zRO_p0 (k := k.toNat) (by omega))) ((va_up_ne _ _ (by omega)).trans (zRO_p1 (k := k.toNat) (by omega)))) (cwV 1 CX.fix.2.2.2.2 gX3_closeTerm_X2_setTo rfl rfl rfl (by decide +kernel) ⟨Nat.le_of_ble_eq_true rfl, Nat.le_of_ble_eq_true rfl⟩) (z_preV CX hW (r := (RX2, TX2, 1)) ((va_up_ne _ _ (by omega)).trans (zRO_p0 (k := k.toNat) (by omega))) rfl) rfl rfl hl.1 rfl (lv_room (Nat.le_of_ble_eq_true rfl)) dX3_closeTerm_51 ⟨Nat.zero_le _, Nat.zero_le _⟩) (fun gn H locs hok51 hW => ?_)
    have eg : gn = va_up (va_up (zRO cI cP cZ r n T S f) (r + 27 + 4 * k.toNat + 1) (zA cI 25 (zaddS (S (20 + k.toNat)) (S (70 + k.toNat)) 0 0 ((S 0 3) - 1) (S 0 3)))) (r + 29 + 4 * k.toNat + 1) (zA cI 25 (zone 1)) := hok51
    rw [eg] at hW
    clear eg
    have hW := hW
    rw [zRO_ws (k := k.toNat) (by omega)] at hW
    rw [zRO_wp (k := k.toNat) (by omega)] at hW
    obtain ⟨S2, hS2⟩ : ∃ q : Nat → Nat → Int, q = zset (zset S (20 + k.toNat) (zaddS (S (20 + k.toNat)) (S (70 + k.toNat)) 0 0 ((S 0 3) - 1) (S 0 3))) (70 + k.toNat) (zone 1) := ⟨_, rfl⟩
    rw [← hS2] at hW
    have hS2_0 : S2 0 0 = S 0 0 := by rw [hS2]; first | rfl | (simp [zsr, zsd, zset]; done) | ((repeat rw [zset_ne _ _ (by omega)]); first | done | rfl | (simp [zsr, zsd, zset]; done)) | (unfold zsd; (repeat (first | rw [zset_self] | rw [zset_ne _ _ (by omega)])); first | done | rfl | (simp; done))
    have hS2_1 : S2 0 1 = S 0 1 := by rw [hS2]; first | rfl | (simp [zsr, zsd, zset]; done) | ((repeat rw [zset_ne _ _ (by omega)]); first | done | rfl | (simp [zsr, zsd, zset]; done)) | (unfold zsd; (repeat (first | rw [zset_self] | rw [zset_ne _ _ (by omega)])); first | done | rfl | (simp; done))
    have hS2_2 : S2 0 2 = S 0 2 := by rw [hS2]; first | rfl | (simp [zsr, zsd, zset]; done) | ((repeat rw [zset_ne _ _ (by omega)]); first | done | rfl | (simp [zsr, zsd, zset]; done)) | (unfold zsd; (repeat (first | rw [zset_self] | rw [zset_ne _ _ (by omega)])); first | done | rfl | (simp; done))
    have hS2_3 : S2 0 3 = S 0 3 := by rw [hS2]; first | rfl | (simp [zsr, zsd, zset]; done) | ((repeat rw [zset_ne _ _ (by omega)]); first | done | rfl | (simp [zsr, zsd, zset]; done)) | (unfold zsd; (repeat (first | rw [zset_self] | rw [zset_ne _ _ (by omega)])); first | done | rfl | (simp; done))
    have hS2_4 : S2 0 4 = S 0 4 := by rw [hS2]; first | rfl | (simp [zsr, zsd, zset]; done) | ((repeat rw [zset_ne _ _ (by omega)]); first | done | rfl | (simp [zsr, zsd, zset]; done)) | (unfold zsd; (repeat (first | rw [zset_self] | rw [zset_ne _ _ (by omega)])); first | done | rfl | (simp; done))
    skip
    rw [← hQ]
    exact z_vret CX hW (by rw [hS2]; unfold zct; first | rw [if_pos c_18] | rw [if_neg c_18]) dX3_closeTerm_54
noncomputable def zmS (S : Nat → Nat → Int) (c d : Nat) : Nat → Nat → Int := zset (zset S 6 (zmuS (S c) (S d) (S 6) (S 0 3))) c (zmuP (S c) (S d) (S 0 3))
/-- the power, taken often -/
noncomputable def zpwF : Nat → (Nat → Nat → Int) → Int × (Nat → Nat → Int)
  | 0, S => (1, S)
  | j + 1, S => @ite _ (zmuc (S 5) (S 4)) (Classical.propDecidable _) (0, zmS S 5 4) (zpwF j (zmS S 5 4))
noncomputable def zrf4 (o : Nat) (stt : Int) (S : Nat → Nat → Int) : Int × (Nat → Nat → Int) := @ite _ (zmuc (S (70 + o)) (S 5)) (Classical.propDecidable _) (0, zfl 4 stt (zmS S (70 + o) 5)) (1, zmS S (70 + o) 5)
noncomputable def zrf3 (o : Nat) (stt pw : Int) (S : Nat → Nat → Int) : Int × (Nat → Nat → Int) := if (zpwF (pw - 0).toNat (zset S 5 (zone 1))).1 = 0 then (0, zfl 4 stt (zpwF (pw - 0).toNat (zset S 5 (zone 1))).2) else zrf4 o stt (zpwF (pw - 0).toNat (zset S 5 (zone 1))).2
noncomputable def zrf2 (n : Int) (T : Nat → Int) (o : Nat) (stt : Int) (S : Nat → Nat → Int) : Int × (Nat → Nat → Int) := if zdig (zby n T (S 0 0)) = 0 then (0, zfl 1 (S 0 0) S) else if (zrn n T S).1 < 0 ∨ 4 < (zrn n T S).1 then (0, zfl 2 (S 0 0) (zrn n T S).2) else zrf3 o stt (zrn n T S).1 (zrn n T S).2
noncomputable def zrf (n : Int) (T : Nat → Int) (o : Nat) (stt : Int) (S : Nat → Nat → Int) : Int × (Nat → Nat → Int) := if (ztk n T 94 S).1 = 0 then zrf3 o stt 1 (ztk n T 94 S).2 else zrf2 n T o stt (zskS n T (ztk n T 94 S).2)
theorem zpwF_t {j : Nat} {S : Nat → Nat → Int} (h : zmuc (S 5) (S 4)) : zpwF (j + 1) S = (0, zmS S 5 4) := if_pos h
theorem zpwF_f {j : Nat} {S : Nat → Nat → Int} (h : ¬ zmuc (S 5) (S 4)) : zpwF (j + 1) S = zpwF j (zmS S 5 4) := if_neg h
theorem zrf4_t {o : Nat} {stt : Int} {S : Nat → Nat → Int} (h : zmuc (S (70 + o)) (S 5)) : zrf4 o stt S = (0, zfl 4 stt (zmS S (70 + o) 5)) := if_pos h
theorem zrf4_f {o : Nat} {stt : Int} {S : Nat → Nat → Int} (h : ¬ zmuc (S (70 + o)) (S 5)) : zrf4 o stt S = (1, zmS S (70 + o) 5) := if_neg h
theorem zmS_k (S : Nat → Nat → Int) {c d k : Nat} (h6 : k ≠ 6) (hc : k ≠ c) : zmS S c d k = S k := by
  unfold zmS
  rw [zset_ne _ _ hc, zset_ne _ _ h6]
theorem zmS_own (S : Nat → Nat → Int) (c d : Nat) : zmS S c d c = zmuP (S c) (S d) (S 0 3) := zset_self _ _ _
/-- of a state another one: the numbers but the place and the FAULT, all but the parts in question -/
def zsim (S S2 : Nat → Nat → Int) (o : Nat) : Prop := (S2 0 3 = S 0 3 ∧ S2 0 4 = S 0 4) ∧ ∀ k, k ≠ 0 → k ≠ 5 → k ≠ 6 → k ≠ 70 + o → S2 k = S k
theorem zsim.refl {S : Nat → Nat → Int} {o : Nat} : zsim S S o := ⟨⟨rfl, rfl⟩, fun _ _ _ _ _ => rfl⟩
theorem zsim.trans {S S2 S3 : Nat → Nat → Int} {o : Nat} (h : zsim S S2 o) (h2 : zsim S2 S3 o) : zsim S S3 o := ⟨⟨h2.1.1.trans h.1.1, h2.1.2.trans h.1.2⟩, fun k a b c d => (h2.2 k a b c d).trans (h.2 k a b c d)⟩
theorem zmS_sim {S : Nat → Nat → Int} {o c d : Nat} (hc : c = 5 ∨ c = 70 + o) : zsim S (zmS S c d) o := ⟨⟨by rw [zmS_k S (by decide) (by omega)], by rw [zmS_k S (by decide) (by omega)]⟩, fun k h0 h5 h6 h7 => zmS_k S h6 (by omega)⟩
theorem zfl_sim {S : Nat → Nat → Int} {k a : Int} {o : Nat} : zsim S (zfl k a S) o := ⟨⟨rfl, rfl⟩, fun k h0 _ _ _ => zfl_k h0⟩
theorem zskS_sim {n : Int} {T : Nat → Int} {S : Nat → Nat → Int} {o : Nat} : zsim S (zskS n T S) o := ⟨⟨rfl, rfl⟩, fun k h0 _ _ _ => zsr_ne h0⟩
theorem ztk_sim {n : Int} {T : Nat → Int} {sg : Int} {S : Nat → Nat → Int} {o : Nat} : zsim S (ztk n T sg S).2 o := ⟨⟨ztk_num _ _ _ _ (by decide), ztk_num _ _ _ _ (by decide)⟩, fun k h0 _ _ _ => ztk_k _ _ _ _ h0⟩
theorem zrn_sim {n : Int} {T : Nat → Int} {S : Nat → Nat → Int} {o : Nat} : zsim S (zrn n T S).2 o := ⟨⟨rfl, rfl⟩, fun k h0 _ _ _ => zsr_ne h0⟩
theorem zpwF_sim (o : Nat) : ∀ (j : Nat) (S : Nat → Nat → Int), zsim S (zpwF j S).2 o
  | 0, S => zsim.refl
  | j + 1, S => by
    by_cases h : zmuc (S 5) (S 4)
    · rw [zpwF_t h]
      exact zmS_sim (Or.inl rfl)
    · rw [zpwF_f h]
      exact (zmS_sim (Or.inl rfl)).trans (zpwF_sim o j _)
theorem zset5_sim {S : Nat → Nat → Int} {x : Nat → Int} {o : Nat} : zsim S (zset S 5 x) o := ⟨⟨by rw [zset_ne _ _ (by decide)], by rw [zset_ne _ _ (by decide)]⟩, fun k _ h5 _ _ => zset_ne _ _ h5⟩
theorem zrf4_sim (o : Nat) (stt : Int) (S : Nat → Nat → Int) : zsim S (zrf4 o stt S).2 o := by
  by_cases h : zmuc (S (70 + o)) (S 5)
  · rw [zrf4_t h]
    exact (zmS_sim (Or.inr rfl)).trans zfl_sim
  · rw [zrf4_f h]
    exact zmS_sim (Or.inr rfl)
theorem zrf3_sim (o : Nat) (stt pw : Int) (S : Nat → Nat → Int) : zsim S (zrf3 o stt pw S).2 o := by
  unfold zrf3
  split
  · exact (zset5_sim.trans (zpwF_sim o _ _)).trans zfl_sim
  · exact (zset5_sim.trans (zpwF_sim o _ _)).trans (zrf4_sim o stt _)
theorem zrf2_sim (n : Int) (T : Nat → Int) (o : Nat) (stt : Int) (S : Nat → Nat → Int) : zsim S (zrf2 n T o stt S).2 o := by
  unfold zrf2
  split
  · exact zfl_sim
  · split
    · exact zrn_sim.trans zfl_sim
    · exact zrn_sim.trans (zrf3_sim o stt _ _)
theorem zrf_sim (n : Int) (T : Nat → Int) (o : Nat) (stt : Int) (S : Nat → Nat → Int) : zsim S (zrf n T o stt S).2 o := by
  unfold zrf
  split
  · exact ztk_sim.trans (zrf3_sim o stt _ _)
  · exact (ztk_sim.trans zskS_sim).trans (zrf2_sim n T o stt _)
theorem zpwF_pl : ∀ (j : Nat) (S : Nat → Nat → Int), (zpwF j S).2 0 = S 0
  | 0, S => rfl
  | j + 1, S => by
    by_cases h : zmuc (S 5) (S 4)
    · rw [zpwF_t h]
      exact zmS_k S (c := 5) (d := 4) (k := 0) (by decide) (by decide)
    · rw [zpwF_f h, zpwF_pl j]
      exact zmS_k S (c := 5) (d := 4) (k := 0) (by decide) (by decide)
theorem zrf3_pl (o : Nat) (stt pw : Int) (S : Nat → Nat → Int) : (zrf3 o stt pw S).2 0 0 = S 0 0 := by
  have h5 : (zpwF (pw - 0).toNat (zset S 5 (zone 1))).2 0 = S 0 := (zpwF_pl _ _).trans (zset_ne _ _ (by decide))
  unfold zrf3
  split
  · show (zpwF (pw - 0).toNat (zset S 5 (zone 1))).2 0 0 = S 0 0
    rw [h5]
  · generalize (zpwF (pw - 0).toNat (zset S 5 (zone 1))).2 = A at h5 ⊢
    by_cases h : zmuc (A (70 + o)) (A 5)
    · rw [zrf4_t h]
      show zmS A (70 + o) 5 0 0 = S 0 0
      rw [zmS_k A (by decide) (by omega), h5]
    · rw [zrf4_f h]
      show zmS A (70 + o) 5 0 0 = S 0 0
      rw [zmS_k A (by decide) (by omega), h5]
theorem zrf_pl {n : Int} {T : Nat → Int} (o : Nat) (stt : Int) {S : Nat → Nat → Int} (h : 0 ≤ S 0 0 ∧ S 0 0 ≤ n) : S 0 0 ≤ (zrf n T o stt S).2 0 0 ∧ (zrf n T o stt S).2 0 0 ≤ n := by
  have h1 := ztk_rng (T := T) (sg := 94) h (by decide)
  unfold zrf
  split
  · rw [zrf3_pl]
    exact h1
  · have h2 := zsk_rng (T := T) (show 0 ≤ (ztk n T 94 S).2 0 0 ∧ (ztk n T 94 S).2 0 0 ≤ n by omega)
    generalize (ztk n T 94 S).2 = A at h1 h2 ⊢
    have e : zskS n T A 0 0 = zsk n T (A 0 0) := rfl
    unfold zrf2
    split
    · show S 0 0 ≤ zskS n T A 0 0 ∧ zskS n T A 0 0 ≤ n
      rw [e]
      omega
    · have h3 := zrnA_rng (T := T) (show 0 ≤ zskS n T A 0 0 ∧ zskS n T A 0 0 ≤ n by rw [e]; omega)
      split
      · show S 0 0 ≤ (zrnA n T (zskS n T A 0 0)).1 ∧ (zrnA n T (zskS n T A 0 0)).1 ≤ n
        omega
      · rw [zrf3_pl]
        show S 0 0 ≤ (zrnA n T (zskS n T A 0 0)).1 ∧ (zrnA n T (zskS n T A 0 0)).1 ≤ n
        omega
theorem zpwF_can : ∀ (j : Nat) (S : Nat → Nat → Int) (p : Int), S 0 3 = p → 0 < p → zcan p (S 5) → zcan p ((zpwF j S).2 5)
  | 0, S, p, _, _, h => h
  | j + 1, S, p, e, hp, h => by
    have h1 : zcan p (zmS S 5 4 5) := by
      rw [zmS_own, e]
      exact zmuP_can hp h
    by_cases hm : zmuc (S 5) (S 4)
    · rw [zpwF_t hm]
      exact h1
    · rw [zpwF_f hm]
      exact zpwF_can j _ p (by rw [zmS_k S (by decide) (by decide)]; exact e) hp h1
theorem zrf3_can {o : Nat} {stt pw p : Int} {S : Nat → Nat → Int} (e : S 0 3 = p) (hp : 0 < p) (h : zcan p (S (70 + o))) : zcan p ((zrf3 o stt pw S).2 (70 + o)) := by
  have hs := (zset5_sim (S := S) (x := zone 1) (o := o + 1)).trans (zpwF_sim (o + 1) (pw - 0).toNat (zset S 5 (zone 1)))
  have h7 := hs.2 (70 + o) (by omega) (by omega) (by omega) (by omega)
  have h3 := hs.1.1
  unfold zrf3
  generalize zpwF (pw - 0).toNat (zset S 5 (zone 1)) = q at h7 h3 ⊢
  split
  · show zcan p (zfl 4 stt q.2 (70 + o))
    rw [zfl_k (by omega), h7]
    exact h
  · by_cases hm : zmuc (q.2 (70 + o)) (q.2 5)
    · rw [zrf4_t hm]
      show zcan p (zfl 4 stt (zmS q.2 (70 + o) 5) (70 + o))
      rw [zfl_k (by omega), zmS_own, h3, e]
      exact zmuP_can hp (by rw [h7]; exact h)
    · rw [zrf4_f hm]
      show zcan p (zmS q.2 (70 + o) 5 (70 + o))
      rw [zmS_own, h3, e]
      exact zmuP_can hp (by rw [h7]; exact h)
theorem zrf_can {n : Int} {T : Nat → Int} {o : Nat} {stt p : Int} {S : Nat → Nat → Int} (e : S 0 3 = p) (hp : 0 < p) (h : zcan p (S (70 + o))) : zcan p ((zrf n T o stt S).2 (70 + o)) := by
  have k1 : (ztk n T 94 S).2 (70 + o) = S (70 + o) := ztk_k _ _ _ _ (by omega)
  have k2 : (ztk n T 94 S).2 0 3 = p := (ztk_num _ _ _ _ (by decide)).trans e
  unfold zrf
  split
  · exact zrf3_can k2 hp (by rw [k1]; exact h)
  · generalize (ztk n T 94 S).2 = A at k1 k2 ⊢
    unfold zrf2
    split
    · show zcan p (zfl 1 _ (zskS n T A) (70 + o))
      rw [zfl_k (by omega)]
      show zcan p (zsr A _ _ _ (70 + o))
      rw [zsr_ne (by omega), k1]
      exact h
    · split
      · show zcan p (zfl 2 _ (zrn n T (zskS n T A)).2 (70 + o))
        rw [zfl_k (by omega), zrn_k _ _ _ (by omega)]
        show zcan p (zsr A _ _ _ (70 + o))
        rw [zsr_ne (by omega), k1]
        exact h
      · refine zrf3_can (by rw [zrn_num _ _ _ (by omega)]; exact k2) hp ?_
        rw [zrn_k _ _ _ (by omega)]
        show zcan p (zsr A _ _ _ (70 + o))
        rw [zsr_ne (by omega), k1]
        exact h
theorem zrf_01 (n : Int) (T : Nat → Int) (o : Nat) (stt : Int) (S : Nat → Nat → Int) : (zrf n T o stt S).1 = 0 ∨ (zrf n T o stt S).1 = 1 := by
  have h4 : ∀ A, (zrf4 o stt A).1 = 0 ∨ (zrf4 o stt A).1 = 1 := fun A => by
    by_cases hm : zmuc (A (70 + o)) (A 5)
    · rw [zrf4_t hm]
      exact Or.inl rfl
    · rw [zrf4_f hm]
      exact Or.inr rfl
  have h3 : ∀ pw A, (zrf3 o stt pw A).1 = 0 ∨ (zrf3 o stt pw A).1 = 1 := fun pw A => by
    unfold zrf3
    split
    · exact Or.inl rfl
    · exact h4 _
  unfold zrf
  split
  · exact h3 _ _
  · unfold zrf2
    split
    · exact Or.inl rfl
    · split
      · exact Or.inl rfl
      · exact h3 _ _
set_option maxRecDepth 100000 in
set_option maxHeartbeats 4000000 in
/-- Reader.readFactor -/
theorem c_readFactor (l : Launch) {D : va_G} {cI cJ cZ cP cS cM : ClassId} {L : List Nat} {sz : Nat} {f : Nat → va_E} (r : Nat) (n : Int) (T : Nat → Int) (S : Nat → Nat → Int) (k stt : Int) (hT : ztape n T) (hpl : 0 ≤ S 0 0 ∧ S 0 0 ≤ n) (hk : 0 ≤ k ∧ k ≤ 40) (hst : -1 ≤ stt ∧ stt ≤ 1000) (h3 : 2 ≤ S 0 3 ∧ S 0 3 ≤ 31) (hc4 : zcan (S 0 3) (S 4)) (hc7 : zcan (S 0 3) (S (70 + k.toNat))) : zMi l yX3_readFactor wsX3_readFactor 3 79 D (zT cI cJ cZ cP cS cM) L sz (zRO cI cP cZ r n T S f) [.ref r, .int (zI k), .int (zI stt)] (fun z g => z = (zrf n T k.toNat stt S).1 ∧ g = zRO cI cP cZ r n T (zrf n T k.toNat stt S).2 f) := by
  refine zWalk.met (nL := 5) (ret := (some .boolean)) (cc := cX3_readFactor) (by decide) rfl (Nat.le_of_ble_eq_true rfl) ?_
  intro pg en st mi ag bl mt cd ls CX hW hl
  have CX : zC pg st mi ag mt cd cX3_readFactor 5 (some .boolean) RX3 wsX3_readFactor := CX
  generalize hQ : MQ bl _ ag st 0 0 _ = Q
  have hX0 := CX.1
  have hB0 := CX.2.1
  have hl : lv_has ls 5 [(0, .ref r), (1, .int (zI k)), (2, .int (zI stt))] := hl
  obtain ⟨H, eH⟩ : ∃ H, H = st.heap := ⟨_, rfl⟩
  obtain ⟨locs, eL⟩ : ∃ L : List Loc, L = [] := ⟨_, rfl⟩
  have hW : zW D (zT cI cJ cZ cP cS cM) L (zQ L sz) st (zRO cI cP cZ r n T S f) st.heap H locs := by rw [eH, eL]; exact hW
  suffices hgo : W pg l en ({ frames := 3, cells := 0, slots := 0, locals := 79 } : Room) st mi ag bl mt cd H locs 0 0 Q (F0 mi 0 ls []) by rw [eH, eL] at hgo; exact hgo
  clear eH eL
  have hJ63 : ∀ (Sa : Nat → Nat → Int) (pw : Int), (0 ≤ pw ∧ pw ≤ 4 ∧ zrf n T k.toNat stt S = zrf3 k.toNat stt pw Sa ∧ zcan (S 0 3) (Sa 4) ∧ zcan (S 0 3) (Sa (70 + k.toNat)) ∧ Sa 0 3 = S 0 3) → ∀ (H : Heap) (locs : List Loc) (ls : Array Slot), zW D (zT cI cJ cZ cP cS cM) L (zQ L sz) st (zRO cI cP cZ r n T Sa f) st.heap H locs → lv_has ls 5 [(3, .int (zI pw)), (0, .ref r), (1, .int (zI k)), (2, .int (zI stt))] → W pg l en ({ frames := 3, cells := 0, slots := 0, locals := 79 } : Room) st mi ag bl mt cd H locs 0 0 Q (F0 mi 63 ls []) := by
    intro Sa pw hinv63 H locs ls hW hl
    obtain ⟨hp0, hp1, hpz, hb4, hb7, hb3⟩ := hinv63
    obtain ⟨S9, hS9⟩ : ∃ q : Nat → Nat → Int, q = zset Sa 5 (zone 1) := ⟨_, rfl⟩
    refine lv_aload_n hX0 hB0 dX3_readFactor_63 rfl (lv_at hl 1 rfl) ?_
    refine z_get (Cn := RX3) (T := TX3) (N := 13) CX hW (v := .ref (r + 23)) zRO_0 rfl (fun w h => List.mem_cons_of_mem _ (List.mem_append_left _ (List.mem_append_left _ (List.mem_append_right _ h)))) 10 (by decide) (List.mem_of_getElem? (i := 2) rfl) rfl rfl dX3_readFactor_64 ?_
    refine lv_iconst (v := zI 1) hX0 hB0 dX3_readFactor_67 rfl ?_
    refine z_callv hW (va_runV (C := RX2) (As := [.int (zI 1)]) (rest := []) CX.fix (c_setTo l (f := zRO cI cP cZ r n T Sa f) (r + 23) (r + 24) (Sa 5) 1 zRO_23 zRO_24) (cwV 1 CX.fix.2.2.2.2 gX3_readFactor_X2_setTo rfl rfl rfl (by decide +kernel) ⟨Nat.le_of_ble_eq_true rfl, Nat.le_of_ble_eq_true rfl⟩) (z_preV CX hW (r := (RX2, TX2, 1)) zRO_23 rfl) rfl rfl hl.1 rfl (lv_room (Nat.le_of_ble_eq_true rfl)) dX3_readFactor_68 ⟨Nat.zero_le _, Nat.zero_le _⟩) (fun gn H locs hok68 hW => ?_)
    have eg : gn = va_up (zRO cI cP cZ r n T Sa f) (r + 24) (zA cI 25 (zone 1)) := hok68
    rw [eg] at hW
    clear eg
    refine lv_iconst (v := zI 0) hX0 hB0 dX3_readFactor_71 rfl ?_
    refine lv_istore (lv' := [(4, .int (zI 0)), (3, .int (zI pw)), (0, .ref r), (1, .int (zI k)), (2, .int (zI stt))]) hX0 hB0 dX3_readFactor_72 hl (by decide) rfl (fun ls hl => ?_)
    have hW := hW
    rw [zRO_w24] at hW
    obtain ⟨S1, hS1⟩ : ∃ q : Nat → Nat → Int, q = zset Sa 5 (zone 1) := ⟨_, rfl⟩
    rw [← hS1] at hW
    have hS1_0 : S1 0 0 = Sa 0 0 := by rw [hS1]; first | rfl | (simp [zsr, zsd, zset]; done) | ((repeat rw [zset_ne _ _ (by omega)]); first | done | rfl | (simp [zsr, zsd, zset]; done)) | (unfold zsd; (repeat (first | rw [zset_self] | rw [zset_ne _ _ (by omega)])); first | done | rfl | (simp; done))
    have hS1_1 : S1 0 1 = Sa 0 1 := by rw [hS1]; first | rfl | (simp [zsr, zsd, zset]; done) | ((repeat rw [zset_ne _ _ (by omega)]); first | done | rfl | (simp [zsr, zsd, zset]; done)) | (unfold zsd; (repeat (first | rw [zset_self] | rw [zset_ne _ _ (by omega)])); first | done | rfl | (simp; done))
    have hS1_2 : S1 0 2 = Sa 0 2 := by rw [hS1]; first | rfl | (simp [zsr, zsd, zset]; done) | ((repeat rw [zset_ne _ _ (by omega)]); first | done | rfl | (simp [zsr, zsd, zset]; done)) | (unfold zsd; (repeat (first | rw [zset_self] | rw [zset_ne _ _ (by omega)])); first | done | rfl | (simp; done))
    have hS1_3 : S1 0 3 = Sa 0 3 := by rw [hS1]; first | rfl | (simp [zsr, zsd, zset]; done) | ((repeat rw [zset_ne _ _ (by omega)]); first | done | rfl | (simp [zsr, zsd, zset]; done)) | (unfold zsd; (repeat (first | rw [zset_self] | rw [zset_ne _ _ (by omega)])); first | done | rfl | (simp; done))
    have hS1_4 : S1 0 4 = Sa 0 4 := by rw [hS1]; first | rfl | (simp [zsr, zsd, zset]; done) | ((repeat rw [zset_ne _ _ (by omega)]); first | done | rfl | (simp [zsr, zsd, zset]; done)) | (unfold zsd; (repeat (first | rw [zset_self] | rw [zset_ne _ _ (by omega)])); first | done | rfl | (simp; done))
    skip
    have hL74 : ∀ (fu : Nat) (Sb : Nat → Nat → Int) (j : Int), (0 ≤ j ∧ j ≤ pw ∧ zpwF (pw - 0).toNat S9 = zpwF (pw - j).toNat Sb ∧ zcan (S 0 3) (Sb 5) ∧ zcan (S 0 3) (Sb 4) ∧ zcan (S 0 3) (Sb (70 + k.toNat)) ∧ Sb 0 3 = S 0 3) → (pw - j).toNat < fu → ∀ (H : Heap) (locs : List Loc) (ls : Array Slot), zW D (zT cI cJ cZ cP cS cM) L (zQ L sz) st (zRO cI cP cZ r n T Sb f) st.heap H locs → lv_has ls 5 [(4, .int (zI j)), (3, .int (zI pw)), (0, .ref r), (1, .int (zI k)), (2, .int (zI stt))] → W pg l en ({ frames := 3, cells := 0, slots := 0, locals := 79 } : Room) st mi ag bl mt cd H locs 0 0 Q (F0 mi 74 ls []) := by
      intro fu
      induction fu with
      | zero => intro Sb j _ hfu; exact absurd hfu (Nat.not_lt_zero _)
      | succ fu ih74 =>
        intro Sb j hinv74 hfu74 H locs ls hW hl
        obtain ⟨hj0, hj1, hjz, hca5, hca4, hca7, hd3⟩ := hinv74
        refine lv_iload hX0 hB0 dX3_readFactor_74 (lv_at hl 0 rfl) ?_
        refine lv_iload_n hX0 hB0 dX3_readFactor_76 rfl (lv_at hl 1 rfl) ?_
        refine z_icmp_ge (tgt := 108) CX dX3_readFactor_77 (by decide) (by constructor <;> omega) (by constructor <;> omega) (fun c_77 => ?_) (fun c_77 => ?_)
        ·
          refine lv_aload_n hX0 hB0 dX3_readFactor_108 rfl (lv_at hl 2 rfl) ?_
          refine lv_aload_n hX0 hB0 dX3_readFactor_109 rfl (lv_at hl 2 rfl) ?_
          refine z_get (Cn := RX3) (T := TX3) (N := 13) CX hW (v := .ref (r + 18)) zRO_0 rfl (fun w h => List.mem_cons_of_mem _ (List.mem_append_left _ (List.mem_append_left _ (List.mem_append_right _ h)))) 6 (by decide) (List.mem_of_getElem? (i := 4) rfl) rfl rfl dX3_readFactor_110 ?_
          refine lv_iload_n hX0 hB0 dX3_readFactor_113 rfl (lv_at hl 3 rfl) ?_
          refine z_aald (o := some (r + 29 + 4 * k.toNat)) CX hW zRO_18 3 rfl (by refine ⟨?_, ?_, ?_⟩ <;> omega) rfl dX3_readFactor_114 ?_
          refine lv_aload_n hX0 hB0 dX3_readFactor_115 rfl (lv_at hl 2 rfl) ?_
          refine z_get (Cn := RX3) (T := TX3) (N := 13) CX hW (v := .ref (r + 23)) zRO_0 rfl (fun w h => List.mem_cons_of_mem _ (List.mem_append_left _ (List.mem_append_left _ (List.mem_append_right _ h)))) 10 (by decide) (List.mem_of_getElem? (i := 2) rfl) rfl rfl dX3_readFactor_116 ?_
          refine z_calli hW (va_runV (C := RX3) (As := [.ref (r + 29 + 4 * k.toNat), .ref (r + 23)]) (rest := []) CX.fix (c_multiply l (f := zRO cI cP cZ r n T Sb f) r n (Sb 0 1) (Sb 0 2) (Sb 0 0) (Sb 0 3) (Sb 0 4) (r + 2) (r + 3) (Sb 6) (r + 29 + 4 * k.toNat) (r + 29 + 4 * k.toNat + 1) (Sb (70 + k.toNat)) (r + 23) (r + 24) (Sb 5) zRO_0 zRO_1 zRO_25 zRO_26 (zRO_p0 (k := k.toNat) (by omega)) (zRO_p1 (k := k.toNat) (by omega)) zRO_23 zRO_24 (by rw [hd3]; exact hca7) (by rw [hd3]; exact hca5) (by omega) (by omega)) (cwV 2 CX.fix.2.2.2.2 gX3_readFactor_X3_multiply rfl rfl rfl (by decide +kernel) ⟨Nat.le_of_ble_eq_true rfl, Nat.le_of_ble_eq_true rfl⟩) (z_preV CX hW (r := (RX3, TX3, 13)) zRO_0 rfl) rfl rfl hl.1 rfl (lv_room (Nat.le_of_ble_eq_true rfl)) dX3_readFactor_119 ⟨Nat.zero_le _, Nat.zero_le _⟩) (fun zv gn H locs hok119 hW => ?_)
          obtain ⟨hmt119, hmf119, eg⟩ := hok119
          obtain ⟨z119, ezv119⟩ : ∃ q, q = zv := ⟨_, rfl⟩
          rw [← ezv119] at hmt119 hmf119 ⊢
          clear ezv119
          have hb119 : z119 = 0 ∨ z119 = 1 := by by_cases hq : zmuc (Sb (70 + k.toNat)) (Sb 5); exact Or.inl (hmt119 hq); exact Or.inr (hmf119 hq)
          have hmi119 : ¬ z119 = 0 → ¬ zmuc (Sb (70 + k.toNat)) (Sb 5) := fun h9 h8 => h9 (hmt119 h8)
          have hmj119 : z119 = 0 → zmuc (Sb (70 + k.toNat)) (Sb 5) := fun h9 => Classical.byContradiction fun h8 => by have := hmf119 h8; omega
          have eg : gn = va_up (va_up (zRO cI cP cZ r n T Sb f) (r + 26) (zA cI 25 (zmuS (Sb (70 + k.toNat)) (Sb 5) (Sb 6) (Sb 0 3)))) (r + 29 + 4 * k.toNat + 1) (zA cI 25 (zmuP (Sb (70 + k.toNat)) (Sb 5) (Sb 0 3))) := eg
          rw [eg] at hW
          clear eg
          refine z_if_ne (tgt := 134) CX dX3_readFactor_122 (by decide) (by constructor <;> omega) (fun c_122 => ?_) (fun c_122 => ?_)
          ·
            refine lv_iconst (v := zI 1) hX0 hB0 dX3_readFactor_134 rfl ?_
            refine lv_goto (tgt := 139) hX0 hB0 dX3_readFactor_135 (by decide) ?_
            have hW := hW
            rw [zRO_w26] at hW
            rw [zRO_wp (k := k.toNat) (by omega)] at hW
            obtain ⟨S2, hS2⟩ : ∃ q : Nat → Nat → Int, q = zset (zset Sb 6 (zmuS (Sb (70 + k.toNat)) (Sb 5) (Sb 6) (Sb 0 3))) (70 + k.toNat) (zmuP (Sb (70 + k.toNat)) (Sb 5) (Sb 0 3)) := ⟨_, rfl⟩
            rw [← hS2] at hW
            have hS2_0 : S2 0 0 = Sb 0 0 := by rw [hS2]; first | rfl | (simp [zsr, zsd, zset]; done) | ((repeat rw [zset_ne _ _ (by omega)]); first | done | rfl | (simp [zsr, zsd, zset]; done)) | (unfold zsd; (repeat (first | rw [zset_self] | rw [zset_ne _ _ (by omega)])); first | done | rfl | (simp; done))
            have hS2_1 : S2 0 1 = Sb 0 1 := by rw [hS2]; first | rfl | (simp [zsr, zsd, zset]; done) | ((repeat rw [zset_ne _ _ (by omega)]); first | done | rfl | (simp [zsr, zsd, zset]; done)) | (unfold zsd; (repeat (first | rw [zset_self] | rw [zset_ne _ _ (by omega)])); first | done | rfl | (simp; done))
            have hS2_2 : S2 0 2 = Sb 0 2 := by rw [hS2]; first | rfl | (simp [zsr, zsd, zset]; done) | ((repeat rw [zset_ne _ _ (by omega)]); first | done | rfl | (simp [zsr, zsd, zset]; done)) | (unfold zsd; (repeat (first | rw [zset_self] | rw [zset_ne _ _ (by omega)])); first | done | rfl | (simp; done))
            have hS2_3 : S2 0 3 = Sb 0 3 := by rw [hS2]; first | rfl | (simp [zsr, zsd, zset]; done) | ((repeat rw [zset_ne _ _ (by omega)]); first | done | rfl | (simp [zsr, zsd, zset]; done)) | (unfold zsd; (repeat (first | rw [zset_self] | rw [zset_ne _ _ (by omega)])); first | done | rfl | (simp; done))
            have hS2_4 : S2 0 4 = Sb 0 4 := by rw [hS2]; first | rfl | (simp [zsr, zsd, zset]; done) | ((repeat rw [zset_ne _ _ (by omega)]); first | done | rfl | (simp [zsr, zsd, zset]; done)) | (unfold zsd; (repeat (first | rw [zset_self] | rw [zset_ne _ _ (by omega)])); first | done | rfl | (simp; done))
            skip
            rw [← hQ]
            refine z_iret (z := 1) CX hW ?_ rfl dX3_readFactor_139
            have hpf : zpwF (pw - 0).toNat S9 = (1, Sb) := by rw [hjz, show (pw - j).toNat = 0 by omega]; rfl
            have hq : zrf n T k.toNat stt S = (1, S2) := by rw [hpz]; unfold zrf3; rw [← hS9, hpf, if_neg (show ¬ (1 : Int) = 0 by decide), zrf4_f (hmi119 c_122)]; unfold zmS; rw [hS2]
            rw [hq]
            exact ⟨rfl, rfl⟩
          ·
            refine lv_aload_n hX0 hB0 dX3_readFactor_125 rfl (lv_at hl 2 rfl) ?_
            refine lv_iconst (v := zI 4) hX0 hB0 dX3_readFactor_126 rfl ?_
            refine lv_iload_n hX0 hB0 dX3_readFactor_127 rfl (lv_at hl 4 rfl) ?_
            have hW := hW
            rw [zRO_w26] at hW
            rw [zRO_wp (k := k.toNat) (by omega)] at hW
            obtain ⟨S3, hS3⟩ : ∃ q : Nat → Nat → Int, q = zset (zset Sb 6 (zmuS (Sb (70 + k.toNat)) (Sb 5) (Sb 6) (Sb 0 3))) (70 + k.toNat) (zmuP (Sb (70 + k.toNat)) (Sb 5) (Sb 0 3)) := ⟨_, rfl⟩
            rw [← hS3] at hW
            have hS3_0 : S3 0 0 = Sb 0 0 := by rw [hS3]; first | rfl | (simp [zsr, zsd, zset]; done) | ((repeat rw [zset_ne _ _ (by omega)]); first | done | rfl | (simp [zsr, zsd, zset]; done)) | (unfold zsd; (repeat (first | rw [zset_self] | rw [zset_ne _ _ (by omega)])); first | done | rfl | (simp; done))
            have hS3_1 : S3 0 1 = Sb 0 1 := by rw [hS3]; first | rfl | (simp [zsr, zsd, zset]; done) | ((repeat rw [zset_ne _ _ (by omega)]); first | done | rfl | (simp [zsr, zsd, zset]; done)) | (unfold zsd; (repeat (first | rw [zset_self] | rw [zset_ne _ _ (by omega)])); first | done | rfl | (simp; done))
            have hS3_2 : S3 0 2 = Sb 0 2 := by rw [hS3]; first | rfl | (simp [zsr, zsd, zset]; done) | ((repeat rw [zset_ne _ _ (by omega)]); first | done | rfl | (simp [zsr, zsd, zset]; done)) | (unfold zsd; (repeat (first | rw [zset_self] | rw [zset_ne _ _ (by omega)])); first | done | rfl | (simp; done))
            have hS3_3 : S3 0 3 = Sb 0 3 := by rw [hS3]; first | rfl | (simp [zsr, zsd, zset]; done) | ((repeat rw [zset_ne _ _ (by omega)]); first | done | rfl | (simp [zsr, zsd, zset]; done)) | (unfold zsd; (repeat (first | rw [zset_self] | rw [zset_ne _ _ (by omega)])); first | done | rfl | (simp; done))
            have hS3_4 : S3 0 4 = Sb 0 4 := by rw [hS3]; first | rfl | (simp [zsr, zsd, zset]; done) | ((repeat rw [zset_ne _ _ (by omega)]); first | done | rfl | (simp [zsr, zsd, zset]; done)) | (unfold zsd; (repeat (first | rw [zset_self] | rw [zset_ne _ _ (by omega)])); first | done | rfl | (simp; done))
            skip
            refine z_calli hW (va_runV (C := RX3) (As := [.int (zI 4), .int (zI stt)]) (rest := []) CX.fix (c_fail l (f := f) r n T S3 4 stt hT (by constructor <;> omega) (by constructor <;> omega)) (cwV 2 CX.fix.2.2.2.2 gX3_readFactor_X3_fail rfl rfl rfl (by decide +kernel) ⟨Nat.le_of_ble_eq_true rfl, Nat.le_of_ble_eq_true rfl⟩) (z_preV CX hW (r := (RX3, TX3, 13)) zRO_0 rfl) rfl rfl hl.1 rfl (lv_room (Nat.le_of_ble_eq_true rfl)) dX3_readFactor_128 ⟨Nat.zero_le _, Nat.zero_le _⟩) (fun zv gn H locs hok128 hW => ?_)
            obtain ⟨hz128, hg128⟩ := hok128
            obtain ⟨z128, ezv128⟩ : ∃ q, q = zv := ⟨_, rfl⟩
            rw [← ezv128] at hz128 ⊢
            clear ezv128
            rw [hg128] at hW
            clear hg128
            obtain ⟨S128c, hS128c⟩ : ∃ q : Nat → Nat → Int, q = zfl 4 stt S3 := ⟨_, rfl⟩
            rw [← hS128c] at hW
            have hS128c_0 : S128c 0 0 = S3 0 0 := by rw [hS128c]; first | rfl | (simp [zsr, zsd, zset]; done) | ((repeat rw [zset_ne _ _ (by omega)]); first | done | rfl | (simp [zsr, zsd, zset]; done)) | (unfold zsd; (repeat (first | rw [zset_self] | rw [zset_ne _ _ (by omega)])); first | done | rfl | (simp; done))
            have hS128c_1 : S128c 0 1 = 4 := by rw [hS128c]; first | rfl | (simp [zsr, zsd, zset]; done) | ((repeat rw [zset_ne _ _ (by omega)]); first | done | rfl | (simp [zsr, zsd, zset]; done)) | (unfold zsd; (repeat (first | rw [zset_self] | rw [zset_ne _ _ (by omega)])); first | done | rfl | (simp; done))
            have hS128c_2 : S128c 0 2 = stt := by rw [hS128c]; first | rfl | (simp [zsr, zsd, zset]; done) | ((repeat rw [zset_ne _ _ (by omega)]); first | done | rfl | (simp [zsr, zsd, zset]; done)) | (unfold zsd; (repeat (first | rw [zset_self] | rw [zset_ne _ _ (by omega)])); first | done | rfl | (simp; done))
            have hS128c_3 : S128c 0 3 = S3 0 3 := by rw [hS128c]; first | rfl | (simp [zsr, zsd, zset]; done) | ((repeat rw [zset_ne _ _ (by omega)]); first | done | rfl | (simp [zsr, zsd, zset]; done)) | (unfold zsd; (repeat (first | rw [zset_self] | rw [zset_ne _ _ (by omega)])); first | done | rfl | (simp; done))
            have hS128c_4 : S128c 0 4 = S3 0 4 := by rw [hS128c]; first | rfl | (simp [zsr, zsd, zset]; done) | ((repeat rw [zset_ne _ _ (by omega)]); first | done | rfl | (simp [zsr, zsd, zset]; done)) | (unfold zsd; (repeat (first | rw [zset_self] | rw [zset_ne _ _ (by omega)])); first | done | rfl | (simp; done))
            refine z_if_eq (tgt := 138) CX dX3_readFactor_131 (by decide) (by constructor <;> omega) (fun c_131 => ?_) (fun c_131 => ?_)
            ·
              refine lv_iconst (v := zI 0) hX0 hB0 dX3_readFactor_138 rfl ?_
              rw [← hQ]
              refine z_iret (z := 0) CX hW ?_ rfl dX3_readFactor_139
              have hpf : zpwF (pw - 0).toNat S9 = (1, Sb) := by rw [hjz, show (pw - j).toNat = 0 by omega]; rfl
              have hq : zrf n T k.toNat stt S = (0, S128c) := by rw [hpz]; unfold zrf3; rw [← hS9, hpf, if_neg (show ¬ (1 : Int) = 0 by decide), zrf4_t (hmj119 (by omega)), hS128c]; unfold zmS; rw [hS3]
              rw [hq]
              exact ⟨rfl, rfl⟩
            ·
              exact absurd hz128 c_131
        ·
          refine lv_aload_n hX0 hB0 dX3_readFactor_80 rfl (lv_at hl 2 rfl) ?_
          refine lv_aload_n hX0 hB0 dX3_readFactor_81 rfl (lv_at hl 2 rfl) ?_
          refine z_get (Cn := RX3) (T := TX3) (N := 13) CX hW (v := .ref (r + 23)) zRO_0 rfl (fun w h => List.mem_cons_of_mem _ (List.mem_append_left _ (List.mem_append_left _ (List.mem_append_right _ h)))) 10 (by decide) (List.mem_of_getElem? (i := 2) rfl) rfl rfl dX3_readFactor_82 ?_
          refine lv_aload_n hX0 hB0 dX3_readFactor_85 rfl (lv_at hl 2 rfl) ?_
          refine z_get (Cn := RX3) (T := TX3) (N := 13) CX hW (v := .ref (r + 21)) zRO_0 rfl (fun w h => List.mem_cons_of_mem _ (List.mem_append_left _ (List.mem_append_left _ (List.mem_append_right _ h)))) 9 (by decide) (List.mem_of_getElem? (i := 3) rfl) rfl rfl dX3_readFactor_86 ?_
          refine z_calli hW (va_runV (C := RX3) (As := [.ref (r + 23), .ref (r + 21)]) (rest := []) CX.fix (c_multiply l (f := zRO cI cP cZ r n T Sb f) r n (Sb 0 1) (Sb 0 2) (Sb 0 0) (Sb 0 3) (Sb 0 4) (r + 2) (r + 3) (Sb 6) (r + 23) (r + 24) (Sb 5) (r + 21) (r + 22) (Sb 4) zRO_0 zRO_1 zRO_25 zRO_26 zRO_23 zRO_24 zRO_21 zRO_22 (by rw [hd3]; exact hca5) (by rw [hd3]; exact hca4) (by omega) (by omega)) (cwV 2 CX.fix.2.2.2.2 gX3_readFactor_X3_multiply rfl rfl rfl (by decide +kernel) ⟨Nat.le_of_ble_eq_true rfl, Nat.le_of_ble_eq_true rfl⟩) (z_preV CX hW (r := (RX3, TX3, 13)) zRO_0 rfl) rfl rfl hl.1 rfl (lv_room (Nat.le_of_ble_eq_true rfl)) dX3_readFactor_89 ⟨Nat.zero_le _, Nat.zero_le _⟩) (fun zv gn H locs hok89 hW => ?_)
          obtain ⟨hmt89, hmf89, eg⟩ := hok89
          obtain ⟨z89, ezv89⟩ : ∃ q, q = zv := ⟨_, rfl⟩
          rw [← ezv89] at hmt89 hmf89 ⊢
          clear ezv89
          have hb89 : z89 = 0 ∨ z89 = 1 := by by_cases hq : zmuc (Sb 5) (Sb 4); exact Or.inl (hmt89 hq); exact Or.inr (hmf89 hq)
          have hmi89 : ¬ z89 = 0 → ¬ zmuc (Sb 5) (Sb 4) := fun h9 h8 => h9 (hmt89 h8)
          have hmj89 : z89 = 0 → zmuc (Sb 5) (Sb 4) := fun h9 => Classical.byContradiction fun h8 => by have := hmf89 h8; omega
          have eg : gn = va_up (va_up (zRO cI cP cZ r n T Sb f) (r + 26) (zA cI 25 (zmuS (Sb 5) (Sb 4) (Sb 6) (Sb 0 3)))) (r + 24) (zA cI 25 (zmuP (Sb 5) (Sb 4) (Sb 0 3))) := eg
          rw [eg] at hW
          clear eg
          refine z_if_ne (tgt := 102) CX dX3_readFactor_92 (by decide) (by constructor <;> omega) (fun c_92 => ?_) (fun c_92 => ?_)
          ·
            refine lv_iinc (v := zI (j + 1)) (lv' := [(4, .int (zI (j + 1))), (3, .int (zI pw)), (0, .ref r), (1, .int (zI k)), (2, .int (zI stt))]) hX0 hB0 dX3_readFactor_102 hl (k := 0) rfl (zI_add _ _) (by decide) rfl (fun ls hl => ?_)
            refine lv_goto (tgt := 74) hX0 hB0 dX3_readFactor_105 (by decide) ?_
            have hW := hW
            rw [zRO_w26] at hW
            rw [zRO_w24] at hW
            obtain ⟨S4, hS4⟩ : ∃ q : Nat → Nat → Int, q = zset (zset Sb 6 (zmuS (Sb 5) (Sb 4) (Sb 6) (Sb 0 3))) 5 (zmuP (Sb 5) (Sb 4) (Sb 0 3)) := ⟨_, rfl⟩
            rw [← hS4] at hW
            have hS4_0 : S4 0 0 = Sb 0 0 := by rw [hS4]; first | rfl | (simp [zsr, zsd, zset]; done) | ((repeat rw [zset_ne _ _ (by omega)]); first | done | rfl | (simp [zsr, zsd, zset]; done)) | (unfold zsd; (repeat (first | rw [zset_self] | rw [zset_ne _ _ (by omega)])); first | done | rfl | (simp; done))
            have hS4_1 : S4 0 1 = Sb 0 1 := by rw [hS4]; first | rfl | (simp [zsr, zsd, zset]; done) | ((repeat rw [zset_ne _ _ (by omega)]); first | done | rfl | (simp [zsr, zsd, zset]; done)) | (unfold zsd; (repeat (first | rw [zset_self] | rw [zset_ne _ _ (by omega)])); first | done | rfl | (simp; done))
            have hS4_2 : S4 0 2 = Sb 0 2 := by rw [hS4]; first | rfl | (simp [zsr, zsd, zset]; done) | ((repeat rw [zset_ne _ _ (by omega)]); first | done | rfl | (simp [zsr, zsd, zset]; done)) | (unfold zsd; (repeat (first | rw [zset_self] | rw [zset_ne _ _ (by omega)])); first | done | rfl | (simp; done))
            have hS4_3 : S4 0 3 = Sb 0 3 := by rw [hS4]; first | rfl | (simp [zsr, zsd, zset]; done) | ((repeat rw [zset_ne _ _ (by omega)]); first | done | rfl | (simp [zsr, zsd, zset]; done)) | (unfold zsd; (repeat (first | rw [zset_self] | rw [zset_ne _ _ (by omega)])); first | done | rfl | (simp; done))
            have hS4_4 : S4 0 4 = Sb 0 4 := by rw [hS4]; first | rfl | (simp [zsr, zsd, zset]; done) | ((repeat rw [zset_ne _ _ (by omega)]); first | done | rfl | (simp [zsr, zsd, zset]; done)) | (unfold zsd; (repeat (first | rw [zset_self] | rw [zset_ne _ _ (by omega)])); first | done | rfl | (simp; done))
            skip
            exact ih74 S4 (j + 1) ⟨by omega, by omega, by rw [hjz, show (pw - j).toNat = (pw - (j + 1)).toNat + 1 by omega, zpwF_f (hmi89 c_92)]; unfold zmS; rw [hS4], by rw [hS4, zset_self]; exact (by rw [hd3]; exact zmuP_can (by omega) hca5), by rw [hS4, zset_ne _ _ (by decide), zset_ne _ _ (by decide)]; exact hca4, by rw [hS4, zset_ne _ _ (by omega), zset_ne _ _ (by omega)]; exact hca7, by rw [hS4, zset_ne _ _ (by decide), zset_ne _ _ (by decide)]; exact hd3⟩ (by omega) H locs ls hW (lv_sub hl [0, 1, 2, 3, 4] rfl)
          ·
            refine lv_aload_n hX0 hB0 dX3_readFactor_95 rfl (lv_at hl 2 rfl) ?_
            refine lv_iconst (v := zI 4) hX0 hB0 dX3_readFactor_96 rfl ?_
            refine lv_iload_n hX0 hB0 dX3_readFactor_97 rfl (lv_at hl 4 rfl) ?_
            have hW := hW
            rw [zRO_w26] at hW
            rw [zRO_w24] at hW
            obtain ⟨S5, hS5⟩ : ∃ q : Nat → Nat → Int, q = zset (zset Sb 6 (zmuS (Sb 5) (Sb 4) (Sb 6) (Sb 0 3))) 5 (zmuP (Sb 5) (Sb 4) (Sb 0 3)) := ⟨_, rfl⟩
            rw [← hS5] at hW
            have hS5_0 : S5 0 0 = Sb 0 0 := by rw [hS5]; first | rfl | (simp [zsr, zsd, zset]; done) | ((repeat rw [zset_ne _ _ (by omega)]); first | done | rfl | (simp [zsr, zsd, zset]; done)) | (unfold zsd; (repeat (first | rw [zset_self] | rw [zset_ne _ _ (by omega)])); first | done | rfl | (simp; done))
            have hS5_1 : S5 0 1 = Sb 0 1 := by rw [hS5]; first | rfl | (simp [zsr, zsd, zset]; done) | ((repeat rw [zset_ne _ _ (by omega)]); first | done | rfl | (simp [zsr, zsd, zset]; done)) | (unfold zsd; (repeat (first | rw [zset_self] | rw [zset_ne _ _ (by omega)])); first | done | rfl | (simp; done))
            have hS5_2 : S5 0 2 = Sb 0 2 := by rw [hS5]; first | rfl | (simp [zsr, zsd, zset]; done) | ((repeat rw [zset_ne _ _ (by omega)]); first | done | rfl | (simp [zsr, zsd, zset]; done)) | (unfold zsd; (repeat (first | rw [zset_self] | rw [zset_ne _ _ (by omega)])); first | done | rfl | (simp; done))
            have hS5_3 : S5 0 3 = Sb 0 3 := by rw [hS5]; first | rfl | (simp [zsr, zsd, zset]; done) | ((repeat rw [zset_ne _ _ (by omega)]); first | done | rfl | (simp [zsr, zsd, zset]; done)) | (unfold zsd; (repeat (first | rw [zset_self] | rw [zset_ne _ _ (by omega)])); first | done | rfl | (simp; done))
            have hS5_4 : S5 0 4 = Sb 0 4 := by rw [hS5]; first | rfl | (simp [zsr, zsd, zset]; done) | ((repeat rw [zset_ne _ _ (by omega)]); first | done | rfl | (simp [zsr, zsd, zset]; done)) | (unfold zsd; (repeat (first | rw [zset_self] | rw [zset_ne _ _ (by omega)])); first | done | rfl | (simp; done))
            skip
            refine z_calli hW (va_runV (C := RX3) (As := [.int (zI 4), .int (zI stt)]) (rest := []) CX.fix (c_fail l (f := f) r n T S5 4 stt hT (by constructor <;> omega) (by constructor <;> omega)) (cwV 2 CX.fix.2.2.2.2 gX3_readFactor_X3_fail rfl rfl rfl (by decide +kernel) ⟨Nat.le_of_ble_eq_true rfl, Nat.le_of_ble_eq_true rfl⟩) (z_preV CX hW (r := (RX3, TX3, 13)) zRO_0 rfl) rfl rfl hl.1 rfl (lv_room (Nat.le_of_ble_eq_true rfl)) dX3_readFactor_98 ⟨Nat.zero_le _, Nat.zero_le _⟩) (fun zv gn H locs hok98 hW => ?_)
            obtain ⟨hz98, hg98⟩ := hok98
            obtain ⟨z98, ezv98⟩ : ∃ q, q = zv := ⟨_, rfl⟩
            rw [← ezv98] at hz98 ⊢
            clear ezv98
            rw [hg98] at hW
            clear hg98
            obtain ⟨S98c, hS98c⟩ : ∃ q : Nat → Nat → Int, q = zfl 4 stt S5 := ⟨_, rfl⟩
            rw [← hS98c] at hW
            have hS98c_0 : S98c 0 0 = S5 0 0 := by rw [hS98c]; first | rfl | (simp [zsr, zsd, zset]; done) | ((repeat rw [zset_ne _ _ (by omega)]); first | done | rfl | (simp [zsr, zsd, zset]; done)) | (unfold zsd; (repeat (first | rw [zset_self] | rw [zset_ne _ _ (by omega)])); first | done | rfl | (simp; done))
            have hS98c_1 : S98c 0 1 = 4 := by rw [hS98c]; first | rfl | (simp [zsr, zsd, zset]; done) | ((repeat rw [zset_ne _ _ (by omega)]); first | done | rfl | (simp [zsr, zsd, zset]; done)) | (unfold zsd; (repeat (first | rw [zset_self] | rw [zset_ne _ _ (by omega)])); first | done | rfl | (simp; done))
            have hS98c_2 : S98c 0 2 = stt := by rw [hS98c]; first | rfl | (simp [zsr, zsd, zset]; done) | ((repeat rw [zset_ne _ _ (by omega)]); first | done | rfl | (simp [zsr, zsd, zset]; done)) | (unfold zsd; (repeat (first | rw [zset_self] | rw [zset_ne _ _ (by omega)])); first | done | rfl | (simp; done))
            have hS98c_3 : S98c 0 3 = S5 0 3 := by rw [hS98c]; first | rfl | (simp [zsr, zsd, zset]; done) | ((repeat rw [zset_ne _ _ (by omega)]); first | done | rfl | (simp [zsr, zsd, zset]; done)) | (unfold zsd; (repeat (first | rw [zset_self] | rw [zset_ne _ _ (by omega)])); first | done | rfl | (simp; done))
            have hS98c_4 : S98c 0 4 = S5 0 4 := by rw [hS98c]; first | rfl | (simp [zsr, zsd, zset]; done) | ((repeat rw [zset_ne _ _ (by omega)]); first | done | rfl | (simp [zsr, zsd, zset]; done)) | (unfold zsd; (repeat (first | rw [zset_self] | rw [zset_ne _ _ (by omega)])); first | done | rfl | (simp; done))
            rw [← hQ]
            refine z_iret (z := z98) CX hW ?_ (zI_bool (by omega)) dX3_readFactor_101
            have hpf : zpwF (pw - 0).toNat S9 = (0, S5) := by rw [hjz, show (pw - j).toNat = (pw - (j + 1)).toNat + 1 by omega, zpwF_t (hmj89 (by omega))]; unfold zmS; rw [hS5]
            have hq : zrf n T k.toNat stt S = (0, S98c) := by rw [hpz]; unfold zrf3; rw [← hS9, hpf, if_pos rfl, ← hS98c]
            rw [hq]
            exact ⟨hz98, rfl⟩
    exact hL74 _ S1 0 ⟨by omega, by omega, by rw [hS9, hS1], by rw [hS1, zset_self]; exact zcan_zone h3.1 (Or.inr rfl), by rw [hS1, zset_ne _ _ (by decide)]; exact hb4, by rw [hS1, zset_ne _ _ (by omega)]; exact hb7, by rw [hS1, zset_ne _ _ (by decide)]; exact hb3⟩ (Nat.lt_succ_self _) H locs ls hW (lv_sub hl [0, 1, 2, 3, 4] rfl)
  have hn0 := hT.1
  have hn1 := hT.2.1
  refine lv_iconst (v := zI 1) hX0 hB0 dX3_readFactor_0 rfl ?_
  refine lv_istore_n (lv' := [(3, .int (zI 1)), (0, .ref r), (1, .int (zI k)), (2, .int (zI stt))]) hX0 hB0 dX3_readFactor_1 rfl hl (by decide) rfl (fun ls hl => ?_)
  refine lv_aload_n hX0 hB0 dX3_readFactor_2 rfl (lv_at hl 1 rfl) ?_
  refine lv_bipush (v := zI 94) hX0 hB0 dX3_readFactor_3 (by decide) ?_
  refine z_calli hW (va_runV (C := RX3) (As := [.int (zI 94)]) (rest := []) CX.fix (c_take l (f := f) r n T S 94 hT (by omega) (by omega)) (cwV 1 CX.fix.2.2.2.2 gX3_readFactor_X3_take rfl rfl rfl (by decide +kernel) ⟨Nat.le_of_ble_eq_true rfl, Nat.le_of_ble_eq_true rfl⟩) (z_preV CX hW (r := (RX3, TX3, 13)) zRO_0 rfl) rfl rfl hl.1 rfl (lv_room (Nat.le_of_ble_eq_true rfl)) dX3_readFactor_5 ⟨Nat.zero_le _, Nat.zero_le _⟩) (fun zv gn H locs hok5 hW => ?_)
  obtain ⟨hz5, hg5⟩ := hok5
  obtain ⟨z5, ezv5⟩ : ∃ q, q = zv := ⟨_, rfl⟩
  rw [← ezv5] at hz5 ⊢
  clear ezv5
  rw [hg5] at hW
  clear hg5
  obtain ⟨S5c, hS5c⟩ : ∃ q : Nat → Nat → Int, q = (ztk n T 94 S).2 := ⟨_, rfl⟩
  rw [← hS5c] at hW
  have hS5c_1 : S5c 0 1 = S 0 1 := by rw [hS5c]; first | rfl | (simp [zsr, zsd, zset]; done) | (exact ztk_num n T 94 S (by decide))
  have hS5c_2 : S5c 0 2 = S 0 2 := by rw [hS5c]; first | rfl | (simp [zsr, zsd, zset]; done) | (exact ztk_num n T 94 S (by decide))
  have hS5c_3 : S5c 0 3 = S 0 3 := by rw [hS5c]; first | rfl | (simp [zsr, zsd, zset]; done) | (exact ztk_num n T 94 S (by decide))
  have hS5c_4 : S5c 0 4 = S 0 4 := by rw [hS5c]; first | rfl | (simp [zsr, zsd, zset]; done) | (exact ztk_num n T 94 S (by decide))
  have hb5 : z5 = 0 ∨ z5 = 1 := by rw [hz5]; exact ztk_01 n T 94 S
  have htr5 := ztk_rng (T := T) (sg := 94) (show 0 ≤ S 0 0 ∧ S 0 0 ≤ n by omega) (by omega)
  rw [← hS5c] at htr5
  refine z_if_eq (tgt := 63) CX dX3_readFactor_8 (by decide) (by constructor <;> omega) (fun c_8 => ?_) (fun c_8 => ?_)
  ·
    exact hJ63 S5c 1 ⟨by omega, by omega, by unfold zrf; rw [← hz5, if_pos c_8, ← hS5c], by rw [hS5c, ztk_k _ _ _ _ (by decide)]; exact hc4, by rw [hS5c, ztk_k _ _ _ _ (by omega)]; exact hc7, by omega⟩ H locs ls hW (lv_sub hl [0, 1, 2, 3] rfl)
  ·
    refine lv_aload_n hX0 hB0 dX3_readFactor_11 rfl (lv_at hl 1 rfl) ?_
    refine z_callv hW (va_runV (C := RX3) (As := []) (rest := []) CX.fix (c_skipBlanks l (f := f) r n T S5c hT (by omega)) (cwV 0 CX.fix.2.2.2.2 gX3_readFactor_X3_skipBlanks rfl rfl rfl (by decide +kernel) ⟨Nat.le_of_ble_eq_true rfl, Nat.le_of_ble_eq_true rfl⟩) (z_preV CX hW (r := (RX3, TX3, 13)) zRO_0 rfl) rfl rfl hl.1 rfl (lv_room (Nat.le_of_ble_eq_true rfl)) dX3_readFactor_12 ⟨Nat.zero_le _, Nat.zero_le _⟩) (fun gn H locs hok12 hW => ?_)
    have hg12 := hok12
    rw [hg12] at hW
    clear hg12
    obtain ⟨S12c, hS12c⟩ : ∃ q : Nat → Nat → Int, q = zskS n T S5c := ⟨_, rfl⟩
    rw [← hS12c] at hW
    have hS12c_0 : S12c 0 0 = zsk n T (S5c 0 0) := by rw [hS12c]; first | rfl | (simp [zsr, zsd, zset]; done) | ((repeat rw [zset_ne _ _ (by omega)]); first | done | rfl | (simp [zsr, zsd, zset]; done)) | (unfold zsd; (repeat (first | rw [zset_self] | rw [zset_ne _ _ (by omega)])); first | done | rfl | (simp; done))
    have hS12c_1 : S12c 0 1 = S5c 0 1 := by rw [hS12c]; first | rfl | (simp [zsr, zsd, zset]; done) | ((repeat rw [zset_ne _ _ (by omega)]); first | done | rfl | (simp [zsr, zsd, zset]; done)) | (unfold zsd; (repeat (first | rw [zset_self] | rw [zset_ne _ _ (by omega)])); first | done | rfl | (simp; done))
    have hS12c_2 : S12c 0 2 = S5c 0 2 := by rw [hS12c]; first | rfl | (simp [zsr, zsd, zset]; done) | ((repeat rw [zset_ne _ _ (by omega)]); first | done | rfl | (simp [zsr, zsd, zset]; done)) | (unfold zsd; (repeat (first | rw [zset_self] | rw [zset_ne _ _ (by omega)])); first | done | rfl | (simp; done))
    have hS12c_3 : S12c 0 3 = S5c 0 3 := by rw [hS12c]; first | rfl | (simp [zsr, zsd, zset]; done) | ((repeat rw [zset_ne _ _ (by omega)]); first | done | rfl | (simp [zsr, zsd, zset]; done)) | (unfold zsd; (repeat (first | rw [zset_self] | rw [zset_ne _ _ (by omega)])); first | done | rfl | (simp; done))
    have hS12c_4 : S12c 0 4 = S5c 0 4 := by rw [hS12c]; first | rfl | (simp [zsr, zsd, zset]; done) | ((repeat rw [zset_ne _ _ (by omega)]); first | done | rfl | (simp [zsr, zsd, zset]; done)) | (unfold zsd; (repeat (first | rw [zset_self] | rw [zset_ne _ _ (by omega)])); first | done | rfl | (simp; done))
    have hskr12 := zsk_rng (T := T) (show 0 ≤ S5c 0 0 ∧ S5c 0 0 ≤ n by omega)
    refine lv_aload_n hX0 hB0 dX3_readFactor_15 rfl (lv_at hl 1 rfl) ?_
    refine z_get (Cn := RX3) (T := TX3) (N := 13) CX hW (v := .int (zI (S12c 0 0))) zRO_0 rfl (fun w h => List.mem_cons_of_mem _ (List.mem_append_left _ (List.mem_append_left _ (List.mem_append_right _ h)))) 12 (by decide) (List.mem_of_getElem? (i := 1) rfl) rfl rfl dX3_readFactor_16 ?_
    refine lv_istore (lv' := [(4, .int (zI (S12c 0 0))), (3, .int (zI 1)), (0, .ref r), (1, .int (zI k)), (2, .int (zI stt))]) hX0 hB0 dX3_readFactor_19 hl (by decide) rfl (fun ls hl => ?_)
    refine lv_aload_n hX0 hB0 dX3_readFactor_21 rfl (lv_at hl 2 rfl) ?_
    refine lv_iload hX0 hB0 dX3_readFactor_22 (lv_at hl 0 rfl) ?_
    refine z_calli hW (va_runV (C := RX3) (As := [.int (zI (S12c 0 0))]) (rest := []) CX.fix (c_byteAt l (f := f) r n T S12c (S12c 0 0) hT (by constructor <;> omega)) (cwV 1 CX.fix.2.2.2.2 gX3_readFactor_X3_byteAt rfl rfl rfl (by decide +kernel) ⟨Nat.le_of_ble_eq_true rfl, Nat.le_of_ble_eq_true rfl⟩) (z_preV CX hW (r := (RX3, TX3, 13)) zRO_0 rfl) rfl rfl hl.1 rfl (lv_room (Nat.le_of_ble_eq_true rfl)) dX3_readFactor_24 ⟨Nat.zero_le _, Nat.zero_le _⟩) (fun zv gn H locs hok24 hW => ?_)
    obtain ⟨ez, eg⟩ := hok24
    have eg : gn = zRO cI cP cZ r n T S12c f := eg
    rw [eg] at hW
    clear eg
    have ez : zv = zby n T (S12c 0 0) := ez
    rw [ez]
    clear ez
    have hby24 := zby_rng hT (S12c 0 0)
    refine z_calli hW (va_runS (As := [.int (zI (zby n T (S12c 0 0)))]) (rest := []) CX.fix (c_isDigit l (f := zRO cI cP cZ r n T S12c f) (zby n T (S12c 0 0)) (by constructor <;> omega)) (va_cwS 1 CX.fix.2.2.2.2 gX3_readFactor_X3_isDigit rfl rfl rfl (by decide +kernel) ⟨Nat.le_of_ble_eq_true rfl, Nat.le_of_ble_eq_true rfl⟩) (z_preS CX hW) rfl rfl hl.1 rfl (lv_room (Nat.le_of_ble_eq_true rfl)) dX3_readFactor_27 ⟨Nat.zero_le _, Nat.zero_le _⟩) (fun zv gn H locs hok27 hW => ?_)
    obtain ⟨ez, eg⟩ := hok27
    have eg : gn = zRO cI cP cZ r n T S12c f := eg
    rw [eg] at hW
    clear eg
    have ez : zv = zdig (zby n T (S12c 0 0)) := ez
    rw [ez]
    clear ez
    have hdg27 := zdig_01 (zby n T (S12c 0 0))
    refine z_if_ne (tgt := 41) CX dX3_readFactor_30 (by decide) (by constructor <;> omega) (fun c_30 => ?_) (fun c_30 => ?_)
    ·
      refine lv_aload_n hX0 hB0 dX3_readFactor_41 rfl (lv_at hl 2 rfl) ?_
      refine z_calli hW (va_runV (C := RX3) (As := []) (rest := []) CX.fix (c_readNumber l (f := f) r n T S12c hT (by omega)) (cwV 0 CX.fix.2.2.2.2 gX3_readFactor_X3_readNumber rfl rfl rfl (by decide +kernel) ⟨Nat.le_of_ble_eq_true rfl, Nat.le_of_ble_eq_true rfl⟩) (z_preV CX hW (r := (RX3, TX3, 13)) zRO_0 rfl) rfl rfl hl.1 rfl (lv_room (Nat.le_of_ble_eq_true rfl)) dX3_readFactor_42 ⟨Nat.zero_le _, Nat.zero_le _⟩) (fun zv gn H locs hok42 hW => ?_)
      obtain ⟨hz42, hg42⟩ := hok42
      obtain ⟨z42, ezv42⟩ : ∃ q, q = zv := ⟨_, rfl⟩
      rw [← ezv42] at hz42 ⊢
      clear ezv42
      rw [hg42] at hW
      clear hg42
      obtain ⟨S42c, hS42c⟩ : ∃ q : Nat → Nat → Int, q = (zrn n T S12c).2 := ⟨_, rfl⟩
      rw [← hS42c] at hW
      have hS42c_0 : S42c 0 0 = (zrnA n T (S12c 0 0)).1 := by rw [hS42c]; first | rfl | (simp [zsr, zsd, zset]; done) | ((repeat rw [zset_ne _ _ (by omega)]); first | done | rfl | (simp [zsr, zsd, zset]; done)) | (unfold zsd; (repeat (first | rw [zset_self] | rw [zset_ne _ _ (by omega)])); first | done | rfl | (simp; done))
      have hS42c_1 : S42c 0 1 = S12c 0 1 := by rw [hS42c]; first | rfl | (simp [zsr, zsd, zset]; done) | (exact zrn_num n T S12c (by decide))
      have hS42c_2 : S42c 0 2 = S12c 0 2 := by rw [hS42c]; first | rfl | (simp [zsr, zsd, zset]; done) | (exact zrn_num n T S12c (by decide))
      have hS42c_3 : S42c 0 3 = S12c 0 3 := by rw [hS42c]; first | rfl | (simp [zsr, zsd, zset]; done) | (exact zrn_num n T S12c (by decide))
      have hS42c_4 : S42c 0 4 = S12c 0 4 := by rw [hS42c]; first | rfl | (simp [zsr, zsd, zset]; done) | (exact zrn_num n T S12c (by decide))
      have hra42 := zrnA_rng (T := T) (show 0 ≤ S12c 0 0 ∧ S12c 0 0 ≤ n by omega)
      have hrv42 : -1 ≤ z42 ∧ z42 ≤ 2147483647 := by rw [hz42]; exact zrnV_rng (by omega)
      refine lv_istore_n (lv' := [(3, .int (zI z42)), (4, .int (zI (S12c 0 0))), (0, .ref r), (1, .int (zI k)), (2, .int (zI stt))]) hX0 hB0 dX3_readFactor_45 rfl hl (by decide) rfl (fun ls hl => ?_)
      refine lv_iload_n hX0 hB0 dX3_readFactor_46 rfl (lv_at hl 0 rfl) ?_
      refine z_if_lt (tgt := 55) CX dX3_readFactor_47 (by decide) (by constructor <;> omega) (fun c_47 => ?_) (fun c_47 => ?_)
      ·
        refine lv_aload_n hX0 hB0 dX3_readFactor_55 rfl (lv_at hl 2 rfl) ?_
        refine lv_iconst (v := zI 2) hX0 hB0 dX3_readFactor_56 rfl ?_
        refine lv_iload hX0 hB0 dX3_readFactor_57 (lv_at hl 1 rfl) ?_
        refine z_calli hW (va_runV (C := RX3) (As := [.int (zI 2), .int (zI (S12c 0 0))]) (rest := []) CX.fix (c_fail l (f := f) r n T S42c 2 (S12c 0 0) hT (by constructor <;> omega) (by constructor <;> omega)) (cwV 2 CX.fix.2.2.2.2 gX3_readFactor_X3_fail rfl rfl rfl (by decide +kernel) ⟨Nat.le_of_ble_eq_true rfl, Nat.le_of_ble_eq_true rfl⟩) (z_preV CX hW (r := (RX3, TX3, 13)) zRO_0 rfl) rfl rfl hl.1 rfl (lv_room (Nat.le_of_ble_eq_true rfl)) dX3_readFactor_59 ⟨Nat.zero_le _, Nat.zero_le _⟩) (fun zv gn H locs hok59 hW => ?_)
        obtain ⟨hz59, hg59⟩ := hok59
        obtain ⟨z59, ezv59⟩ : ∃ q, q = zv := ⟨_, rfl⟩
        rw [← ezv59] at hz59 ⊢
        clear ezv59
        rw [hg59] at hW
        clear hg59
        obtain ⟨S59c, hS59c⟩ : ∃ q : Nat → Nat → Int, q = zfl 2 (S12c 0 0) S42c := ⟨_, rfl⟩
        rw [← hS59c] at hW
        have hS59c_0 : S59c 0 0 = S42c 0 0 := by rw [hS59c]; first | rfl | (simp [zsr, zsd, zset]; done) | ((repeat rw [zset_ne _ _ (by omega)]); first | done | rfl | (simp [zsr, zsd, zset]; done)) | (unfold zsd; (repeat (first | rw [zset_self] | rw [zset_ne _ _ (by omega)])); first | done | rfl | (simp; done))
        have hS59c_1 : S59c 0 1 = 2 := by rw [hS59c]; first | rfl | (simp [zsr, zsd, zset]; done) | ((repeat rw [zset_ne _ _ (by omega)]); first | done | rfl | (simp [zsr, zsd, zset]; done)) | (unfold zsd; (repeat (first | rw [zset_self] | rw [zset_ne _ _ (by omega)])); first | done | rfl | (simp; done))
        have hS59c_2 : S59c 0 2 = S12c 0 0 := by rw [hS59c]; first | rfl | (simp [zsr, zsd, zset]; done) | ((repeat rw [zset_ne _ _ (by omega)]); first | done | rfl | (simp [zsr, zsd, zset]; done)) | (unfold zsd; (repeat (first | rw [zset_self] | rw [zset_ne _ _ (by omega)])); first | done | rfl | (simp; done))
        have hS59c_3 : S59c 0 3 = S42c 0 3 := by rw [hS59c]; first | rfl | (simp [zsr, zsd, zset]; done) | ((repeat rw [zset_ne _ _ (by omega)]); first | done | rfl | (simp [zsr, zsd, zset]; done)) | (unfold zsd; (repeat (first | rw [zset_self] | rw [zset_ne _ _ (by omega)])); first | done | rfl | (simp; done))
        have hS59c_4 : S59c 0 4 = S42c 0 4 := by rw [hS59c]; first | rfl | (simp [zsr, zsd, zset]; done) | ((repeat rw [zset_ne _ _ (by omega)]); first | done | rfl | (simp [zsr, zsd, zset]; done)) | (unfold zsd; (repeat (first | rw [zset_self] | rw [zset_ne _ _ (by omega)])); first | done | rfl | (simp; done))
        rw [← hQ]
        refine z_iret (z := z59) CX hW ?_ (zI_bool (by omega)) dX3_readFactor_62
        have hq : zrf n T k.toNat stt S = (0, S59c) := by unfold zrf; rw [← hz5, if_neg c_8, ← hS5c, ← hS12c]; unfold zrf2; rw [if_neg c_30, ← hz42, if_pos (by omega), ← hS42c, ← hS59c]
        rw [hq]
        exact ⟨hz59, rfl⟩
      ·
        refine lv_iload_n hX0 hB0 dX3_readFactor_50 rfl (lv_at hl 0 rfl) ?_
        refine lv_iconst (v := zI 4) hX0 hB0 dX3_readFactor_51 rfl ?_
        refine z_icmp_le (tgt := 63) CX dX3_readFactor_52 (by decide) (by constructor <;> omega) (by constructor <;> omega) (fun c_52 => ?_) (fun c_52 => ?_)
        ·
          exact hJ63 S42c z42 ⟨by omega, by omega, by unfold zrf; rw [← hz5, if_neg c_8, ← hS5c, ← hS12c]; unfold zrf2; rw [if_neg c_30, ← hz42, if_neg (by omega), ← hS42c], by rw [hS42c, zrn_k _ _ _ (by decide), hS12c]; unfold zskS; rw [zsr_ne (by decide), hS5c, ztk_k _ _ _ _ (by decide)]; exact hc4, by rw [hS42c, zrn_k _ _ _ (by omega), hS12c]; unfold zskS; rw [zsr_ne (by omega), hS5c, ztk_k _ _ _ _ (by omega)]; exact hc7, by omega⟩ H locs ls hW (lv_sub hl [0, 2, 3, 4] rfl)
        ·
          refine lv_aload_n hX0 hB0 dX3_readFactor_55 rfl (lv_at hl 2 rfl) ?_
          refine lv_iconst (v := zI 2) hX0 hB0 dX3_readFactor_56 rfl ?_
          refine lv_iload hX0 hB0 dX3_readFactor_57 (lv_at hl 1 rfl) ?_
          refine z_calli hW (va_runV (C := RX3) (As := [.int (zI 2), .int (zI (S12c 0 0))]) (rest := []) CX.fix (c_fail l (f := f) r n T S42c 2 (S12c 0 0) hT (by constructor <;> omega) (by constructor <;> omega)) (cwV 2 CX.fix.2.2.2.2 gX3_readFactor_X3_fail rfl rfl rfl (by decide +kernel) ⟨Nat.le_of_ble_eq_true rfl, Nat.le_of_ble_eq_true rfl⟩) (z_preV CX hW (r := (RX3, TX3, 13)) zRO_0 rfl) rfl rfl hl.1 rfl (lv_room (Nat.le_of_ble_eq_true rfl)) dX3_readFactor_59 ⟨Nat.zero_le _, Nat.zero_le _⟩) (fun zv gn H locs hok59 hW => ?_)
          obtain ⟨hz59, hg59⟩ := hok59
          obtain ⟨z59, ezv59⟩ : ∃ q, q = zv := ⟨_, rfl⟩
          rw [← ezv59] at hz59 ⊢
          clear ezv59
          rw [hg59] at hW
          clear hg59
          obtain ⟨S59c, hS59c⟩ : ∃ q : Nat → Nat → Int, q = zfl 2 (S12c 0 0) S42c := ⟨_, rfl⟩
          rw [← hS59c] at hW
          have hS59c_0 : S59c 0 0 = S42c 0 0 := by rw [hS59c]; first | rfl | (simp [zsr, zsd, zset]; done) | ((repeat rw [zset_ne _ _ (by omega)]); first | done | rfl | (simp [zsr, zsd, zset]; done)) | (unfold zsd; (repeat (first | rw [zset_self] | rw [zset_ne _ _ (by omega)])); first | done | rfl | (simp; done))
          have hS59c_1 : S59c 0 1 = 2 := by rw [hS59c]; first | rfl | (simp [zsr, zsd, zset]; done) | ((repeat rw [zset_ne _ _ (by omega)]); first | done | rfl | (simp [zsr, zsd, zset]; done)) | (unfold zsd; (repeat (first | rw [zset_self] | rw [zset_ne _ _ (by omega)])); first | done | rfl | (simp; done))
          have hS59c_2 : S59c 0 2 = S12c 0 0 := by rw [hS59c]; first | rfl | (simp [zsr, zsd, zset]; done) | ((repeat rw [zset_ne _ _ (by omega)]); first | done | rfl | (simp [zsr, zsd, zset]; done)) | (unfold zsd; (repeat (first | rw [zset_self] | rw [zset_ne _ _ (by omega)])); first | done | rfl | (simp; done))
          have hS59c_3 : S59c 0 3 = S42c 0 3 := by rw [hS59c]; first | rfl | (simp [zsr, zsd, zset]; done) | ((repeat rw [zset_ne _ _ (by omega)]); first | done | rfl | (simp [zsr, zsd, zset]; done)) | (unfold zsd; (repeat (first | rw [zset_self] | rw [zset_ne _ _ (by omega)])); first | done | rfl | (simp; done))
          have hS59c_4 : S59c 0 4 = S42c 0 4 := by rw [hS59c]; first | rfl | (simp [zsr, zsd, zset]; done) | ((repeat rw [zset_ne _ _ (by omega)]); first | done | rfl | (simp [zsr, zsd, zset]; done)) | (unfold zsd; (repeat (first | rw [zset_self] | rw [zset_ne _ _ (by omega)])); first | done | rfl | (simp; done))
          rw [← hQ]
          refine z_iret (z := z59) CX hW ?_ (zI_bool (by omega)) dX3_readFactor_62
          have hq : zrf n T k.toNat stt S = (0, S59c) := by unfold zrf; rw [← hz5, if_neg c_8, ← hS5c, ← hS12c]; unfold zrf2; rw [if_neg c_30, ← hz42, if_pos (by omega), ← hS42c, ← hS59c]
          rw [hq]
          exact ⟨hz59, rfl⟩
    ·
      refine lv_aload_n hX0 hB0 dX3_readFactor_33 rfl (lv_at hl 2 rfl) ?_
      refine lv_iconst (v := zI 1) hX0 hB0 dX3_readFactor_34 rfl ?_
      refine lv_iload hX0 hB0 dX3_readFactor_35 (lv_at hl 0 rfl) ?_
      refine z_calli hW (va_runV (C := RX3) (As := [.int (zI 1), .int (zI (S12c 0 0))]) (rest := []) CX.fix (c_fail l (f := f) r n T S12c 1 (S12c 0 0) hT (by constructor <;> omega) (by constructor <;> omega)) (cwV 2 CX.fix.2.2.2.2 gX3_readFactor_X3_fail rfl rfl rfl (by decide +kernel) ⟨Nat.le_of_ble_eq_true rfl, Nat.le_of_ble_eq_true rfl⟩) (z_preV CX hW (r := (RX3, TX3, 13)) zRO_0 rfl) rfl rfl hl.1 rfl (lv_room (Nat.le_of_ble_eq_true rfl)) dX3_readFactor_37 ⟨Nat.zero_le _, Nat.zero_le _⟩) (fun zv gn H locs hok37 hW => ?_)
      obtain ⟨hz37, hg37⟩ := hok37
      obtain ⟨z37, ezv37⟩ : ∃ q, q = zv := ⟨_, rfl⟩
      rw [← ezv37] at hz37 ⊢
      clear ezv37
      rw [hg37] at hW
      clear hg37
      obtain ⟨S37c, hS37c⟩ : ∃ q : Nat → Nat → Int, q = zfl 1 (S12c 0 0) S12c := ⟨_, rfl⟩
      rw [← hS37c] at hW
      have hS37c_0 : S37c 0 0 = S12c 0 0 := by rw [hS37c]; first | rfl | (simp [zsr, zsd, zset]; done) | ((repeat rw [zset_ne _ _ (by omega)]); first | done | rfl | (simp [zsr, zsd, zset]; done)) | (unfold zsd; (repeat (first | rw [zset_self] | rw [zset_ne _ _ (by omega)])); first | done | rfl | (simp; done))
      have hS37c_1 : S37c 0 1 = 1 := by rw [hS37c]; first | rfl | (simp [zsr, zsd, zset]; done) | ((repeat rw [zset_ne _ _ (by omega)]); first | done | rfl | (simp [zsr, zsd, zset]; done)) | (unfold zsd; (repeat (first | rw [zset_self] | rw [zset_ne _ _ (by omega)])); first | done | rfl | (simp; done))
      have hS37c_2 : S37c 0 2 = S12c 0 0 := by rw [hS37c]; first | rfl | (simp [zsr, zsd, zset]; done) | ((repeat rw [zset_ne _ _ (by omega)]); first | done | rfl | (simp [zsr, zsd, zset]; done)) | (unfold zsd; (repeat (first | rw [zset_self] | rw [zset_ne _ _ (by omega)])); first | done | rfl | (simp; done))
      have hS37c_3 : S37c 0 3 = S12c 0 3 := by rw [hS37c]; first | rfl | (simp [zsr, zsd, zset]; done) | ((repeat rw [zset_ne _ _ (by omega)]); first | done | rfl | (simp [zsr, zsd, zset]; done)) | (unfold zsd; (repeat (first | rw [zset_self] | rw [zset_ne _ _ (by omega)])); first | done | rfl | (simp; done))
      have hS37c_4 : S37c 0 4 = S12c 0 4 := by rw [hS37c]; first | rfl | (simp [zsr, zsd, zset]; done) | ((repeat rw [zset_ne _ _ (by omega)]); first | done | rfl | (simp [zsr, zsd, zset]; done)) | (unfold zsd; (repeat (first | rw [zset_self] | rw [zset_ne _ _ (by omega)])); first | done | rfl | (simp; done))
      rw [← hQ]
      refine z_iret (z := z37) CX hW ?_ (zI_bool (by omega)) dX3_readFactor_40
      have hq : zrf n T k.toNat stt S = (0, S37c) := by unfold zrf; rw [← hz5, if_neg c_8, ← hS5c, ← hS12c]; unfold zrf2; rw [if_pos (by omega), ← hS37c]
      rw [hq]
      exact ⟨hz37, rfl⟩
end ZTx3
