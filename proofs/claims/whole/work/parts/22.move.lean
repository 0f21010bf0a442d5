section ZMv
def zFrP (f g : Nat → va_E) (e : Nat) : Prop := ∀ x, ¬ (e < x ∧ x < e + 20 ∧ (x - e) % 4 = 1) → g x = f x
set_option maxRecDepth 100000 in
set_option maxHeartbeats 4000000 in
/-- Maker.setPowers -/
theorem c_setPowers (l : Launch) {D : va_G} {cI cJ cZ cP cS cM : ClassId} {L : List Nat} {sz : Nat} {f : Nat → va_E} (m : Nat) (p : Int) (q e : Nat) (PW : Nat → Nat → Int) (h0 h : Nat) (d : Nat → Int) (hm0 : f m = .inr (0, [.ref (m + 1), .ref (m + 3), .ref (m + 4), .ref (m + 5), .ref (m + 6), .ref (m + 8), .ref (m + 10), .ref (m + 12), .ref (m + 13), .int (zI p)])) (hp : 2 ≤ p ∧ p ≤ 31) (hq : f q = zAR cP 5 (fun k => some (e + 4 * k))) (hPW : ∀ k, k < 5 → zPoly cI f (e + 4 * k) (PW k)) (hf0 : f h0 = .inr (2, [.ref h])) (hf1 : f h = zA cI 25 d) (hd : zcan 31 d) (hd1 : h0 < e ∨ e + 20 ≤ h0) (hd2 : h < e ∨ e + 20 ≤ h) (hd3 : m < e ∨ e + 20 ≤ m) (hd4 : q < e ∨ e + 20 ≤ q) : zMv l yX0_setPowers wsX0_setPowers 2 55 D (zT cI cJ cZ cP cS cM) L sz f [.ref m, .ref q, .ref h0] (fun g => zFrP f g e ∧ ∀ k, k < 5 → zPoly cI g (e + 4 * k) (zpws d p k)) := by
  refine zWalk.met (nL := 4) (ret := none) (cc := cX0_setPowers) (by decide) rfl (Nat.le_of_ble_eq_true rfl) ?_
  intro pg en st mi ag bl mt cd ls CX hW hl
  have CX : zC pg st mi ag mt cd cX0_setPowers 4 none RX0 wsX0_setPowers := CX
  generalize hQ : MQ bl _ ag st 0 0 _ = Q
  have hX0 := CX.1
  have hB0 := CX.2.1
  have hl : lv_has ls 4 [(0, .ref m), (1, .ref q), (2, .ref h0)] := hl
  obtain ⟨H, eH⟩ : ∃ H, H = st.heap := ⟨_, rfl⟩
  obtain ⟨locs, eL⟩ : ∃ L : List Loc, L = [] := ⟨_, rfl⟩
  have hW : zW D (zT cI cJ cZ cP cS cM) L (zQ L sz) st f st.heap H locs := by rw [eH, eL]; exact hW
  suffices hgo : W pg l en ({ frames := 2, cells := 0, slots := 0, locals := 55 } : Room) st mi ag bl mt cd H locs 0 0 Q (F0 mi 0 ls []) by rw [eH, eL] at hgo; exact hgo
  clear eH eL
  refine lv_aload_n hX0 hB0 dX0_setPowers_0 rfl (lv_at hl 1 rfl) ?_
  refine lv_iconst (v := zI 0) hX0 hB0 dX0_setPowers_1 rfl ?_
  refine z_aald (o := some (e + 4 * (0 : Int).toNat)) CX hW hq 3 rfl (by refine ⟨?_, ?_, ?_⟩ <;> omega) rfl dX0_setPowers_2 ?_
  refine lv_iconst (v := zI 1) hX0 hB0 dX0_setPowers_3 rfl ?_
  refine z_callv hW (va_runV (C := RX2) (As := [.int (zI 1)]) (rest := []) CX.fix (c_setTo l (f := f) (e + 4 * (0 : Int).toNat) (e + 4 * (0 : Int).toNat + 1) (PW (0 : Int).toNat) 1 (hPW (0 : Int).toNat (by decide)).1 (hPW (0 : Int).toNat (by decide)).2) (cwV 1 CX.fix.2.2.2.2 gX0_setPowers_X2_setTo rfl rfl rfl (by decide +kernel) ⟨Nat.le_of_ble_eq_true rfl, Nat.le_of_ble_eq_true rfl⟩) (z_preV CX hW (r := (RX2, TX2, 1)) (hPW (0 : Int).toNat (by decide)).1 rfl) rfl rfl hl.1 rfl (lv_room (Nat.le_of_ble_eq_true rfl)) dX0_setPowers_4 ⟨Nat.zero_le _, Nat.zero_le _⟩) (fun gn H locs hok4 hW => ?_)
  have eg : gn = va_up f (e + 4 * (0 : Int).toNat + 1) (zA cI 25 (zone 1)) := hok4
  rw [eg] at hW
  clear eg
  refine lv_iconst (v := zI 1) hX0 hB0 dX0_setPowers_7 rfl ?_
  refine lv_istore_n (lv' := [(3, .int (zI 1)), (0, .ref m), (1, .ref q), (2, .ref h0)]) hX0 hB0 dX0_setPowers_8 rfl hl (by decide) rfl (fun ls hl => ?_)
  have hL9 : ∀ (fu : Nat) (k : Int) (g : Nat → va_E), (zFrP f g e ∧ 1 ≤ k ∧ k ≤ 5 ∧ (∀ j : Nat, (j : Int) < k → zPoly cI g (e + 4 * j) (zpws d p j)) ∧ (∀ j : Nat, k ≤ (j : Int) → j < 5 → zPoly cI g (e + 4 * j) (PW j))) → (5 - k).toNat < fu → ∀ (H : Heap) (locs : List Loc) (ls : Array Slot), zW D (zT cI cJ cZ cP cS cM) L (zQ L sz) st g st.heap H locs → lv_has ls 4 [(3, .int (zI k)), (0, .ref m), (1, .ref q), (2, .ref h0)] → W pg l en ({ frames := 2, cells := 0, slots := 0, locals := 55 } : Room) st mi ag bl mt cd H locs 0 0 Q (F0 mi 9 ls []) := by
    intro fu
    induction fu with
    | zero => intro k g _ hfu; exact absurd hfu (Nat.not_lt_zero _)
    | succ fu ih9 =>
      intro k g hinv9 hfu9 H locs ls hW hl
      obtain ⟨hfr, hk0, hk1, hnew, hold⟩ := hinv9
      refine lv_iload_n hX0 hB0 dX0_setPowers_9 rfl (lv_at hl 0 rfl) ?_
      refine lv_iconst (v := zI 4) hX0 hB0 dX0_setPowers_10 rfl ?_
      refine z_icmp_gt (tgt := 36) CX dX0_setPowers_11 (by decide) (by constructor <;> omega) (by constructor <;> omega) (fun c_11 => ?_) (fun c_11 => ?_)
      ·
        rw [← hQ]
        exact z_vret CX hW (by exact ⟨hfr, fun j hj => hnew j (by omega)⟩) dX0_setPowers_36
      ·
        refine lv_aload_n hX0 hB0 dX0_setPowers_14 rfl (lv_at hl 2 rfl) ?_
        refine lv_iload_n hX0 hB0 dX0_setPowers_15 rfl (lv_at hl 0 rfl) ?_
        refine z_aald (o := some (e + 4 * k.toNat)) CX hW ((hfr _ (by omega)).trans hq) 3 rfl (by refine ⟨?_, ?_, ?_⟩ <;> omega) rfl dX0_setPowers_16 ?_
        refine lv_aload_n hX0 hB0 dX0_setPowers_17 rfl (lv_at hl 2 rfl) ?_
        refine lv_iload_n hX0 hB0 dX0_setPowers_18 rfl (lv_at hl 0 rfl) ?_
        refine lv_iconst (v := zI 1) hX0 hB0 dX0_setPowers_19 rfl ?_
        refine z_isub (z := k - 1) CX dX0_setPowers_20 rfl ?_
        refine z_aald (o := some (e + 4 * (k - 1).toNat)) CX hW ((hfr _ (by omega)).trans hq) 3 rfl (by refine ⟨?_, ?_, ?_⟩ <;> omega) rfl dX0_setPowers_21 ?_
        refine lv_aload_n hX0 hB0 dX0_setPowers_22 rfl (lv_at hl 3 rfl) ?_
        refine lv_aload_n hX0 hB0 dX0_setPowers_23 rfl (lv_at hl 1 rfl) ?_
        refine z_get (Cn := RX0) (T := TX0) (N := 10) CX hW (v := .int (zI p)) ((hfr _ (by omega)).trans hm0) rfl (fun w h => List.mem_cons_of_mem _ (List.mem_append_left _ (List.mem_append_right _ h))) 9 (by decide) (List.mem_of_getElem? (i := 1) rfl) rfl rfl dX0_setPowers_24 ?_
        refine z_callv hW (va_runV (C := RX2) (As := [.ref (e + 4 * (k - 1).toNat), .ref h0, .int (zI p)]) (rest := []) CX.fix (c_product l (f := g) (e + 4 * k.toNat) (e + 4 * k.toNat + 1) (PW k.toNat) (e + 4 * (k - 1).toNat) (e + 4 * (k - 1).toNat + 1) (zpws d p (k - 1).toNat) h0 h d p (hold k.toNat (by omega) (by omega)).1 (hold k.toNat (by omega) (by omega)).2 (hnew (k - 1).toNat (by omega)).1 (hnew (k - 1).toNat (by omega)).2 ((hfr _ (by omega)).trans hf0) ((hfr _ (by omega)).trans hf1) (by omega) (by omega) (by exact zcan_le (zpws_can d (by omega) _) (by omega)) (by assumption) (by omega)) (cwV 3 CX.fix.2.2.2.2 gX0_setPowers_X2_product rfl rfl rfl (by decide +kernel) ⟨Nat.le_of_ble_eq_true rfl, Nat.le_of_ble_eq_true rfl⟩) (z_preV CX hW (r := (RX2, TX2, 1)) (hold k.toNat (by omega) (by omega)).1 rfl) rfl rfl hl.1 rfl (lv_room (Nat.le_of_ble_eq_true rfl)) dX0_setPowers_27 ⟨Nat.zero_le _, Nat.zero_le _⟩) (fun gn H locs hok27 hW => ?_)
        have eg : gn = va_up g (e + 4 * k.toNat + 1) (zA cI 25 (zprod (zpws d p (k - 1).toNat) d p)) := hok27
        rw [eg] at hW
        clear eg
        refine lv_iinc (v := zI (k + 1)) (lv' := [(3, .int (zI (k + 1))), (0, .ref m), (1, .ref q), (2, .ref h0)]) hX0 hB0 dX0_setPowers_30 hl (k := 0) rfl (zI_add _ _) (by decide) rfl (fun ls hl => ?_)
        refine lv_goto (tgt := 9) hX0 hB0 dX0_setPowers_33 (by decide) ?_
        exact ih9 (k + 1) (va_up g (e + 4 * k.toNat + 1) (zA cI 25 (zprod (zpws d p (k - 1).toNat) d p))) ⟨fun x hx => ((va_up_ne _ _ (by omega)).trans ((hfr _ (by omega)).trans rfl)), by omega, by omega, fun j hj => by
          by_cases ej : j = k.toNat
          · subst ej
            exact ⟨(va_up_ne _ _ (by omega)).trans (hold k.toNat (by omega) (by omega)).1, (va_up_self _ _ _).trans (by rw [show k.toNat = (k - 1).toNat + 1 by omega]; rfl)⟩
          · exact (hnew j (by omega)).same ((va_up_ne _ _ (by omega)).trans rfl) ((va_up_ne _ _ (by omega)).trans rfl), fun j hj hj5 => (hold j (by omega) hj5).same ((va_up_ne _ _ (by omega)).trans rfl) ((va_up_ne _ _ (by omega)).trans rfl)⟩ (by omega) H locs ls hW (lv_sub hl [0, 1, 2, 3] rfl)
  exact hL9 _ 1 (va_up f (e + 4 * (0 : Int).toNat + 1) (zA cI 25 (zone 1))) ⟨fun x hx => ((va_up_ne _ _ (by omega)).trans rfl), by omega, by omega, fun j hj => by
    have ej : j = 0 := by omega
    subst ej
    exact ⟨((va_up_ne _ _ (by omega)).trans rfl).trans (hPW 0 (by omega)).1, va_up_self _ _ _⟩, fun j hj hj5 => (hPW j hj5).same ((va_up_ne _ _ (by omega)).trans rfl) ((va_up_ne _ _ (by omega)).trans rfl)⟩ (Nat.lt_succ_self _) H locs ls hW (lv_sub hl [0, 1, 2, 3] rfl)
set_option maxRecDepth 100000 in
set_option maxHeartbeats 4000000 in
/-- Maker.moveAll -/
theorem c_moveAll (l : Launch) {D : va_G} {cI cJ cZ cP cS cM : ClassId} {L : List Nat} {sz : Nat} {f : Nat → va_E} (m : Nat) (p : Int) (md sc nx ny : Nat → Int) (x1 y1 z1 x2 y2 z2 : Int) (PX PY RS : Nat → Nat → Int) (a : Nat) (sp n : Int) (C : Nat → Nat → Int) (lt : Nat → Int) (hM : zMk cI cP f m p md sc nx ny x1 y1 z1 x2 y2 z2 PX PY RS) (hp : 2 ≤ p ∧ p ≤ 31) (hnx : zcan p nx) (hny : zcan p ny) (hS : zShelf cI cP f a sp n C lt) (hn : 0 ≤ n ∧ n ≤ 6) (hC : (∀ k : Nat, (k : Int) < n → zcan p (C k))) (hda : a + 15 ≤ m ∨ m + 46 ≤ a) : zMv l yX0_moveAll wsX0_moveAll 3 78 D (zT cI cJ cZ cP cS cM) L sz f [.ref m, .ref a] (fun g => (∀ x, ¬ (m ≤ x ∧ x < m + 46) ∧ ¬ (a ≤ x ∧ x < a + 15) → g x = f x) ∧ (∃ (s2 : Nat → Int) (R2 : Nat → Nat → Int), zMk cI cP g m p md s2 nx ny x1 y1 z1 x2 y2 z2 (zpws nx p) (zpws ny p) R2) ∧ ∃ C2 : Nat → Nat → Int, zShelf cI cP g a sp n C2 lt ∧ (∀ k : Nat, (k : Int) < n → C2 k = zmv (C k) (zpws nx p) (zpws ny p) p) ∧ ∀ k : Nat, n ≤ (k : Int) → C2 k = C k) := by
  refine zWalk.met (nL := 5) (ret := none) (cc := cX0_moveAll) (by decide) rfl (Nat.le_of_ble_eq_true rfl) ?_
  intro pg en st mi ag bl mt cd ls CX hW hl
  have CX : zC pg st mi ag mt cd cX0_moveAll 5 none RX0 wsX0_moveAll := CX
  generalize hQ : MQ bl _ ag st 0 0 _ = Q
  have hX0 := CX.1
  have hB0 := CX.2.1
  have hl : lv_has ls 5 [(0, .ref m), (1, .ref a)] := hl
  obtain ⟨H, eH⟩ : ∃ H, H = st.heap := ⟨_, rfl⟩
  obtain ⟨locs, eL⟩ : ∃ L : List Loc, L = [] := ⟨_, rfl⟩
  have hW : zW D (zT cI cJ cZ cP cS cM) L (zQ L sz) st f st.heap H locs := by rw [eH, eL]; exact hW
  suffices hgo : W pg l en ({ frames := 3, cells := 0, slots := 0, locals := 78 } : Room) st mi ag bl mt cd H locs 0 0 Q (F0 mi 0 ls []) by rw [eH, eL] at hgo; exact hgo
  clear eH eL
  refine lv_aload_n hX0 hB0 dX0_moveAll_0 rfl (lv_at hl 0 rfl) ?_
  refine lv_aload_n hX0 hB0 dX0_moveAll_1 rfl (lv_at hl 0 rfl) ?_
  refine z_get (Cn := RX0) (T := TX0) (N := 10) CX hW (v := .ref (m + 3)) hM.1 rfl (fun w h => List.mem_cons_of_mem _ (List.mem_append_left _ (List.mem_append_left _ (List.mem_append_right _ h)))) 1 (by decide) (List.mem_of_getElem? (i := 1) rfl) rfl rfl dX0_moveAll_2 ?_
  refine lv_aload_n hX0 hB0 dX0_moveAll_5 rfl (lv_at hl 0 rfl) ?_
  refine z_get (Cn := RX0) (T := TX0) (N := 10) CX hW (v := .ref (m + 8)) hM.1 rfl (fun w h => List.mem_cons_of_mem _ (List.mem_append_left _ (List.mem_append_left _ (List.mem_append_right _ h)))) 5 (by decide) (List.mem_of_getElem? (i := 2) rfl) rfl rfl dX0_moveAll_6 ?_
  refine z_callv hW (va_runV (C := RX0) (As := [.ref (m + 3), .ref (m + 8)]) (rest := []) CX.fix (c_setPowers l (f := f) m p (m + 3) (m + 14) PX (m + 8) (m + 9) nx hM.1 (by omega) hM.2.2.2.2.2.2.2.1 hM.2.2.2.2.2.2.2.2.2.2.1 hM.2.2.2.1.1 hM.2.2.2.1.2 (by first | assumption | exact zcan_le (by assumption) (by omega)) (by omega) (by omega) (by omega) (by omega)) (cwV 2 CX.fix.2.2.2.2 gX0_moveAll_X0_setPowers rfl rfl rfl (by decide +kernel) ⟨Nat.le_of_ble_eq_true rfl, Nat.le_of_ble_eq_true rfl⟩) (z_preV CX hW (r := (RX0, TX0, 10)) hM.1 rfl) rfl rfl hl.1 rfl (lv_room (Nat.le_of_ble_eq_true rfl)) dX0_moveAll_9 ⟨Nat.zero_le _, Nat.zero_le _⟩) (fun gn H locs hok9 hW => ?_)
  obtain ⟨g9, eg9⟩ : ∃ q, q = gn := ⟨_, rfl⟩
  rw [← eg9] at hW hok9
  clear eg9
  obtain ⟨hfr9, hpw9⟩ := hok9
  refine lv_aload_n hX0 hB0 dX0_moveAll_12 rfl (lv_at hl 0 rfl) ?_
  refine lv_aload_n hX0 hB0 dX0_moveAll_13 rfl (lv_at hl 0 rfl) ?_
  refine z_get (Cn := RX0) (T := TX0) (N := 10) CX hW (v := .ref (m + 4)) ((hfr9 _ (by omega)).trans hM.1) rfl (fun w h => List.mem_cons_of_mem _ (List.mem_append_left _ (List.mem_append_left _ (List.mem_append_right _ h)))) 2 (by decide) (List.mem_of_getElem? (i := 3) rfl) rfl rfl dX0_moveAll_14 ?_
  refine lv_aload_n hX0 hB0 dX0_moveAll_17 rfl (lv_at hl 0 rfl) ?_
  refine z_get (Cn := RX0) (T := TX0) (N := 10) CX hW (v := .ref (m + 10)) ((hfr9 _ (by omega)).trans hM.1) rfl (fun w h => List.mem_cons_of_mem _ (List.mem_append_left _ (List.mem_append_left _ (List.mem_append_right _ h)))) 6 (by decide) (List.mem_of_getElem? (i := 4) rfl) rfl rfl dX0_moveAll_18 ?_
  refine z_callv hW (va_runV (C := RX0) (As := [.ref (m + 4), .ref (m + 10)]) (rest := []) CX.fix (c_setPowers l (f := g9) m p (m + 4) (m + 16) PY (m + 10) (m + 11) ny ((hfr9 _ (by omega)).trans hM.1) (by omega) ((hfr9 _ (by omega)).trans hM.2.2.2.2.2.2.2.2.1) (fun k hk => (hM.2.2.2.2.2.2.2.2.2.2.2.1 k hk).same ((hfr9 _ (by omega)).trans rfl) ((hfr9 _ (by omega)).trans rfl)) ((hfr9 _ (by omega)).trans hM.2.2.2.2.1.1) ((hfr9 _ (by omega)).trans hM.2.2.2.2.1.2) (by first | assumption | exact zcan_le (by assumption) (by omega)) (by omega) (by omega) (by omega) (by omega)) (cwV 2 CX.fix.2.2.2.2 gX0_moveAll_X0_setPowers rfl rfl rfl (by decide +kernel) ⟨Nat.le_of_ble_eq_true rfl, Nat.le_of_ble_eq_true rfl⟩) (z_preV CX hW (r := (RX0, TX0, 10)) ((hfr9 _ (by omega)).trans hM.1) rfl) rfl rfl hl.1 rfl (lv_room (Nat.le_of_ble_eq_true rfl)) dX0_moveAll_21 ⟨Nat.zero_le _, Nat.zero_le _⟩) (fun gn H locs hok21 hW => ?_)
  obtain ⟨g21, eg21⟩ : ∃ q, q = gn := ⟨_, rfl⟩
  rw [← eg21] at hW hok21
  clear eg21
  obtain ⟨hfr21, hpw21⟩ := hok21
  refine lv_iconst (v := zI 0) hX0 hB0 dX0_moveAll_24 rfl ?_
  refine lv_istore_n (lv' := [(2, .int (zI 0)), (0, .ref m), (1, .ref a)]) hX0 hB0 dX0_moveAll_25 rfl hl (by decide) rfl (fun ls hl => ?_)
  have hL26 : ∀ (fu : Nat) (k : Int) (g : Nat → va_E) (R1 : Nat → Nat → Int) (s1 : Nat → Int), ((∀ x, ¬ (m + 14 ≤ x ∧ x < m + 46) ∧ x ≠ m + 7 → g x = f x) ∧ (∀ k, k < 5 → zPoly cI g (m + 14 + 4 * k) (zpws nx p k)) ∧ (∀ k, k < 5 → zPoly cI g (m + 16 + 4 * k) (zpws ny p k)) ∧ (∀ k, k < 6 → zPoly cI g (m + 34 + 2 * k) (R1 k)) ∧ zPoly cI g (m + 6) s1 ∧ 0 ≤ k ∧ k ≤ 6 ∧ ∀ j : Nat, (j : Int) < k → R1 j = zone 0) → (6 - k).toNat < fu → ∀ (H : Heap) (locs : List Loc) (ls : Array Slot), zW D (zT cI cJ cZ cP cS cM) L (zQ L sz) st g st.heap H locs → lv_has ls 5 [(2, .int (zI k)), (0, .ref m), (1, .ref a)] → W pg l en ({ frames := 3, cells := 0, slots := 0, locals := 78 } : Room) st mi ag bl mt cd H locs 0 0 Q (F0 mi 26 ls []) := by
    intro fu
    induction fu with
    | zero => intro k g R1 s1 _ hfu; exact absurd hfu (Nat.not_lt_zero _)
    | succ fu ih26 =>
      intro k g R1 s1 hinv26 hfu26 H locs ls hW hl
      obtain ⟨hfr, hX, hY, hRS, hsc, hk0, hk1, hz⟩ := hinv26
      refine lv_iload_n hX0 hB0 dX0_moveAll_26 rfl (lv_at hl 0 rfl) ?_
      refine lv_bipush (v := zI 6) hX0 hB0 dX0_moveAll_27 (by decide) ?_
      refine z_icmp_ge (tgt := 48) CX dX0_moveAll_29 (by decide) (by constructor <;> omega) (by constructor <;> omega) (fun c_29 => ?_) (fun c_29 => ?_)
      ·
        refine lv_iconst (v := zI 0) hX0 hB0 dX0_moveAll_48 rfl ?_
        refine lv_istore_n (lv' := [(2, .int (zI 0)), (0, .ref m), (1, .ref a)]) hX0 hB0 dX0_moveAll_49 rfl hl (by decide) rfl (fun ls hl => ?_)
        have hL50 : ∀ (fu : Nat) (i : Int) (g : Nat → va_E) (R1 : Nat → Nat → Int) (s1 : Nat → Int), ((∀ x, ¬ (m + 14 ≤ x ∧ x < m + 46) ∧ x ≠ m + 7 → g x = f x) ∧ (∀ k, k < 5 → zPoly cI g (m + 14 + 4 * k) (zpws nx p k)) ∧ (∀ k, k < 5 → zPoly cI g (m + 16 + 4 * k) (zpws ny p k)) ∧ (∀ k, k < 6 → zPoly cI g (m + 34 + 2 * k) (R1 k)) ∧ zPoly cI g (m + 6) s1 ∧ 0 ≤ i ∧ i ≤ 5 ∧ (∀ k : Nat, (k : Int) < n → R1 k = zfor (zmvO (C k) (zpws nx p) (zpws ny p) p) 0 (zone 0) (i - 0).toNat) ∧ ∀ k, k < 6 → zcan 31 (R1 k)) → (5 - i).toNat < fu → ∀ (H : Heap) (locs : List Loc) (ls : Array Slot), zW D (zT cI cJ cZ cP cS cM) L (zQ L sz) st g st.heap H locs → lv_has ls 5 [(2, .int (zI i)), (0, .ref m), (1, .ref a)] → W pg l en ({ frames := 3, cells := 0, slots := 0, locals := 78 } : Room) st mi ag bl mt cd H locs 0 0 Q (F0 mi 50 ls []) := by
          intro fu
          induction fu with
          | zero => intro i g R1 s1 _ hfu; exact absurd hfu (Nat.not_lt_zero _)
          | succ fu ih50 =>
            intro i g R1 s1 hinv50 hfu50 H locs ls hW hl
            obtain ⟨hfr, hX, hY, hRS, hsc, hi0, hi1, hz, hRc⟩ := hinv50
            refine lv_iload_n hX0 hB0 dX0_moveAll_50 rfl (lv_at hl 0 rfl) ?_
            refine lv_iconst (v := zI 4) hX0 hB0 dX0_moveAll_51 rfl ?_
            refine z_icmp_gt (tgt := 154) CX dX0_moveAll_52 (by decide) (by constructor <;> omega) (by constructor <;> omega) (fun c_52 => ?_) (fun c_52 => ?_)
            ·
              refine lv_iconst (v := zI 0) hX0 hB0 dX0_moveAll_154 rfl ?_
              refine lv_istore_n (lv' := [(2, .int (zI 0)), (0, .ref m), (1, .ref a)]) hX0 hB0 dX0_moveAll_155 rfl hl (by decide) rfl (fun ls hl => ?_)
              have hL156 : ∀ (fu : Nat) (k : Int) (gg : Nat → va_E) (C1 : Nat → Nat → Int), ((∀ x, ¬ (a ≤ x ∧ x < a + 15) → gg x = g x) ∧ zShelf cI cP gg a sp n C1 lt ∧ 0 ≤ k ∧ (k ≤ n ∨ k = 0) ∧ (∀ q : Nat, (q : Int) < k → C1 q = R1 q) ∧ (∀ q : Nat, k ≤ (q : Int) → C1 q = C q)) → (7 - k).toNat < fu → ∀ (H : Heap) (locs : List Loc) (ls : Array Slot), zW D (zT cI cJ cZ cP cS cM) L (zQ L sz) st gg st.heap H locs → lv_has ls 5 [(2, .int (zI k)), (0, .ref m), (1, .ref a)] → W pg l en ({ frames := 3, cells := 0, slots := 0, locals := 78 } : Room) st mi ag bl mt cd H locs 0 0 Q (F0 mi 156 ls []) := by
                intro fu
                induction fu with
                | zero => intro k gg C1 _ hfu; exact absurd hfu (Nat.not_lt_zero _)
                | succ fu ih156 =>
                  intro k gg C1 hinv156 hfu156 H locs ls hW hl
                  obtain ⟨hfg, hSg, hk0, hk1, hlo, hhi⟩ := hinv156
                  have hff : ∀ x, ¬ (a ≤ x ∧ x < a + 15) ∧ ¬ (m + 14 ≤ x ∧ x < m + 46) ∧ x ≠ m + 7 → gg x = f x := fun x hx => (hfg x hx.1).trans (hfr x hx.2)
                  refine lv_iload_n hX0 hB0 dX0_moveAll_156 rfl (lv_at hl 0 rfl) ?_
                  refine lv_aload_n hX0 hB0 dX0_moveAll_157 rfl (lv_at hl 2 rfl) ?_
                  refine z_get (Cn := RX7) (T := TX7) (N := 4) CX hW (v := .int (zI n)) hSg.1 rfl (fun w h => List.mem_cons_of_mem _ (List.mem_append_left _ (List.mem_append_right _ h))) 1 (by decide) (List.mem_of_getElem? (i := 8) rfl) rfl rfl dX0_moveAll_158 ?_
                  refine z_icmp_ge (tgt := 191) CX dX0_moveAll_161 (by decide) (by constructor <;> omega) (by constructor <;> omega) (fun c_161 => ?_) (fun c_161 => ?_)
                  ·
                    rw [← hQ]
                    refine z_vret CX hW ?_ dX0_moveAll_191
                    refine ⟨fun x hx => (hfg x hx.2).trans (hfr x (by omega)), ⟨s1, R1, ⟨(hfg _ (by omega)).trans ((hfr _ (by omega)).trans hM.1), hM.2.1.same ((hfg _ (by omega)).trans (hfr _ (by omega))) ((hfg _ (by omega)).trans (hfr _ (by omega))), hsc.same (hfg _ (by omega)) (hfg _ (by omega)), hM.2.2.2.1.same ((hfg _ (by omega)).trans (hfr _ (by omega))) ((hfg _ (by omega)).trans (hfr _ (by omega))), hM.2.2.2.2.1.same ((hfg _ (by omega)).trans (hfr _ (by omega))) ((hfg _ (by omega)).trans (hfr _ (by omega))), (hfg _ (by omega)).trans ((hfr _ (by omega)).trans hM.2.2.2.2.2.1), (hfg _ (by omega)).trans ((hfr _ (by omega)).trans hM.2.2.2.2.2.2.1), (hfg _ (by omega)).trans ((hfr _ (by omega)).trans hM.2.2.2.2.2.2.2.1), (hfg _ (by omega)).trans ((hfr _ (by omega)).trans hM.2.2.2.2.2.2.2.2.1), (hfg _ (by omega)).trans ((hfr _ (by omega)).trans hM.2.2.2.2.2.2.2.2.2.1), fun q hq => (hX q hq).same (hfg _ (by omega)) (hfg _ (by omega)), fun q hq => (hY q hq).same (hfg _ (by omega)) (hfg _ (by omega)), fun q hq => (hRS q hq).same (hfg _ (by omega)) (hfg _ (by omega))⟩⟩, C1, hSg, fun q hq => ?_, fun q hq => hhi q (by omega)⟩
                    rw [hlo q (by omega), hz q hq, show (i - 0).toNat = (5 - 0 : Int).toNat by omega]
                    rfl
                  ·
                    refine lv_iload_n hX0 hB0 dX0_moveAll_164 rfl (lv_at hl 0 rfl) ?_
                    refine lv_bipush (v := zI 6) hX0 hB0 dX0_moveAll_165 (by decide) ?_
                    refine z_icmp_ge (tgt := 191) CX dX0_moveAll_167 (by decide) (by constructor <;> omega) (by constructor <;> omega) (fun c_167 => ?_) (fun c_167 => ?_)
                    ·
                      omega
                    ·
                      refine lv_aload_n hX0 hB0 dX0_moveAll_170 rfl (lv_at hl 2 rfl) ?_
                      refine z_getN (host := "CurveMeets") (Cn := RX7) (T := TX7) (N := 4) CX hW (v := .ref (a + 1)) hSg.1 rfl (fun w h => List.mem_cons_of_mem _ (List.mem_append_left _ (List.mem_append_right _ h))) 2 (by decide) (by decide +kernel) rfl rfl dX0_moveAll_171 ?_
                      refine lv_iload_n hX0 hB0 dX0_moveAll_174 rfl (lv_at hl 0 rfl) ?_
                      refine z_aald (o := some (a + 3 + 2 * k.toNat)) CX hW hSg.2.1 3 rfl (by refine ⟨?_, ?_, ?_⟩ <;> omega) rfl dX0_moveAll_175 ?_
                      refine lv_aload_n hX0 hB0 dX0_moveAll_176 rfl (lv_at hl 1 rfl) ?_
                      refine z_get (Cn := RX0) (T := TX0) (N := 10) CX hW (v := .ref (m + 5)) ((hff _ (by omega)).trans hM.1) rfl (fun w h => List.mem_cons_of_mem _ (List.mem_append_left _ (List.mem_append_left _ (List.mem_append_right _ h)))) 3 (by decide) (List.mem_of_getElem? (i := 5) rfl) rfl rfl dX0_moveAll_177 ?_
                      refine lv_iload_n hX0 hB0 dX0_moveAll_180 rfl (lv_at hl 0 rfl) ?_
                      refine z_aald (o := some (m + 34 + 2 * k.toNat)) CX hW ((hff _ (by omega)).trans hM.2.2.2.2.2.2.2.2.2.1) 3 rfl (by refine ⟨?_, ?_, ?_⟩ <;> omega) rfl dX0_moveAll_181 ?_
                      refine z_callv hW (va_runV (C := RX2) (As := [.ref (m + 34 + 2 * k.toNat)]) (rest := []) CX.fix (c_copy l (f := gg) (a + 3 + 2 * k.toNat) (a + 3 + 2 * k.toNat + 1) (C1 k.toNat) (m + 34 + 2 * k.toNat) (m + 34 + 2 * k.toNat + 1) (R1 k.toNat) (hSg.2.2.2 k.toNat (by omega)).1 (hSg.2.2.2 k.toNat (by omega)).2 ((hRS k.toNat (by omega)).same (hfg _ (by omega)) (hfg _ (by omega))).1 ((hRS k.toNat (by omega)).same (hfg _ (by omega)) (hfg _ (by omega))).2) (cwV 1 CX.fix.2.2.2.2 gX0_moveAll_X2_copy rfl rfl rfl (by decide +kernel) ⟨Nat.le_of_ble_eq_true rfl, Nat.le_of_ble_eq_true rfl⟩) (z_preV CX hW (r := (RX2, TX2, 1)) (hSg.2.2.2 k.toNat (by omega)).1 rfl) rfl rfl hl.1 rfl (lv_room (Nat.le_of_ble_eq_true rfl)) dX0_moveAll_182 ⟨Nat.zero_le _, Nat.zero_le _⟩) (fun gn H locs hok182 hW => ?_)
                      have eg : gn = va_up gg (a + 3 + 2 * k.toNat + 1) (zA cI 25 (R1 k.toNat)) := hok182
                      rw [eg] at hW
                      clear eg
                      refine lv_iinc (v := zI (k + 1)) (lv' := [(2, .int (zI (k + 1))), (0, .ref m), (1, .ref a)]) hX0 hB0 dX0_moveAll_185 hl (k := 0) rfl (zI_add _ _) (by decide) rfl (fun ls hl => ?_)
                      refine lv_goto (tgt := 156) hX0 hB0 dX0_moveAll_188 (by decide) ?_
                      exact ih156 (k + 1) (va_up gg (a + 3 + 2 * k.toNat + 1) (zA cI 25 (R1 k.toNat))) (zset C1 k.toNat (R1 k.toNat)) ⟨fun x hx => ((va_up_ne _ _ (by omega)).trans rfl).trans (hfg x hx), hSg.put (by omega), by omega, by omega, fun q hq => by
                        by_cases eq : q = k.toNat
                        · rw [eq, zset_self]
                        · rw [zset_ne _ _ eq]; exact hlo q (by omega), fun q hq => by
                        rw [zset_ne _ _ (by omega)]; exact hhi q (by omega)⟩ (by omega) H locs ls hW (lv_sub hl [0, 1, 2] rfl)
              exact hL156 _ 0 g C ⟨fun x hx => rfl, hS.same (fun q h1 h2 => hfr q (by omega)), by omega, by omega, fun q hq => by omega, fun q hq => rfl⟩ (Nat.lt_succ_self _) H locs ls hW (lv_sub hl [0, 1, 2] rfl)
            ·
              obtain ⟨R0, hR0⟩ : ∃ q : Nat → Nat → Int, q = R1 := ⟨_, rfl⟩
              have hz0 := hz
              rw [← hR0] at hz0
              refine lv_iconst (v := zI 0) hX0 hB0 dX0_moveAll_55 rfl ?_
              refine lv_istore_n (lv' := [(3, .int (zI 0)), (2, .int (zI i)), (0, .ref m), (1, .ref a)]) hX0 hB0 dX0_moveAll_56 rfl hl (by decide) rfl (fun ls hl => ?_)
              have hL57 : ∀ (fu : Nat) (j : Int) (g : Nat → va_E) (R1 : Nat → Nat → Int) (s1 : Nat → Int), ((∀ x, ¬ (m + 14 ≤ x ∧ x < m + 46) ∧ x ≠ m + 7 → g x = f x) ∧ (∀ k, k < 5 → zPoly cI g (m + 14 + 4 * k) (zpws nx p k)) ∧ (∀ k, k < 5 → zPoly cI g (m + 16 + 4 * k) (zpws ny p k)) ∧ (∀ k, k < 6 → zPoly cI g (m + 34 + 2 * k) (R1 k)) ∧ zPoly cI g (m + 6) s1 ∧ 0 ≤ j ∧ j ≤ 4 - i + 1 ∧ (∀ k : Nat, (k : Int) < n → R1 k = zfor (zmvI (C k) (zpws nx p) (zpws ny p) p i) 0 (R0 k) (j - 0).toNat) ∧ ∀ k, k < 6 → zcan 31 (R1 k)) → (5 - j).toNat < fu → ∀ (H : Heap) (locs : List Loc) (ls : Array Slot), zW D (zT cI cJ cZ cP cS cM) L (zQ L sz) st g st.heap H locs → lv_has ls 5 [(3, .int (zI j)), (2, .int (zI i)), (0, .ref m), (1, .ref a)] → W pg l en ({ frames := 3, cells := 0, slots := 0, locals := 78 } : Room) st mi ag bl mt cd H locs 0 0 Q (F0 mi 57 ls []) := by
                intro fu
                induction fu with
                | zero => intro j g R1 s1 _ hfu; exact absurd hfu (Nat.not_lt_zero _)
                | succ fu ih57 =>
                  intro j g R1 s1 hinv57 hfu57 H locs ls hW hl
                  obtain ⟨hfr, hX, hY, hRS, hsc, hj0, hj1, hzj, hRc⟩ := hinv57
                  refine lv_iload_n hX0 hB0 dX0_moveAll_57 rfl (lv_at hl 0 rfl) ?_
                  refine lv_iconst (v := zI 4) hX0 hB0 dX0_moveAll_58 rfl ?_
                  refine lv_iload_n hX0 hB0 dX0_moveAll_59 rfl (lv_at hl 1 rfl) ?_
                  refine z_isub (z := 4 - i) CX dX0_moveAll_60 rfl ?_
                  refine z_icmp_gt (tgt := 148) CX dX0_moveAll_61 (by decide) (by constructor <;> omega) (by constructor <;> omega) (fun c_61 => ?_) (fun c_61 => ?_)
                  ·
                    refine lv_iinc (v := zI (i + 1)) (lv' := [(2, .int (zI (i + 1))), (3, .int (zI j)), (0, .ref m), (1, .ref a)]) hX0 hB0 dX0_moveAll_148 hl (k := 1) rfl (zI_add _ _) (by decide) rfl (fun ls hl => ?_)
                    refine lv_goto (tgt := 50) hX0 hB0 dX0_moveAll_151 (by decide) ?_
                    exact ih50 (i + 1) g R1 s1 ⟨hfr, hX, hY, hRS, hsc, by omega, by omega, fun q hq => by
                      rw [zfor_s _ _ _ hi0, ← hz0 q hq, hzj q hq]
                      show zfor _ 0 _ _ = zfor _ 0 _ _
                      rw [show (j - 0).toNat = (4 - i + 1 - 0).toNat by omega], hRc⟩ (by omega) H locs ls hW (lv_sub hl [0, 2, 3] rfl)
                  ·
                    obtain ⟨Rj, hRj⟩ : ∃ q : Nat → Nat → Int, q = R1 := ⟨_, rfl⟩
                    have hzj1 := hzj
                    rw [← hRj] at hzj1
                    refine lv_aload_n hX0 hB0 dX0_moveAll_64 rfl (lv_at hl 2 rfl) ?_
                    refine z_get (Cn := RX0) (T := TX0) (N := 10) CX hW (v := .ref (m + 6)) ((hfr _ (by omega)).trans hM.1) rfl (fun w h => List.mem_cons_of_mem _ (List.mem_append_left _ (List.mem_append_left _ (List.mem_append_right _ h)))) 4 (by decide) (List.mem_of_getElem? (i := 6) rfl) rfl rfl dX0_moveAll_65 ?_
                    refine lv_aload_n hX0 hB0 dX0_moveAll_68 rfl (lv_at hl 2 rfl) ?_
                    refine z_get (Cn := RX0) (T := TX0) (N := 10) CX hW (v := .ref (m + 3)) ((hfr _ (by omega)).trans hM.1) rfl (fun w h => List.mem_cons_of_mem _ (List.mem_append_left _ (List.mem_append_left _ (List.mem_append_right _ h)))) 1 (by decide) (List.mem_of_getElem? (i := 1) rfl) rfl rfl dX0_moveAll_69 ?_
                    refine lv_iload_n hX0 hB0 dX0_moveAll_72 rfl (lv_at hl 1 rfl) ?_
                    refine z_aald (o := some (m + 14 + 4 * i.toNat)) CX hW ((hfr _ (by omega)).trans hM.2.2.2.2.2.2.2.1) 3 rfl (by refine ⟨?_, ?_, ?_⟩ <;> omega) rfl dX0_moveAll_73 ?_
                    refine lv_aload_n hX0 hB0 dX0_moveAll_74 rfl (lv_at hl 2 rfl) ?_
                    refine z_get (Cn := RX0) (T := TX0) (N := 10) CX hW (v := .ref (m + 4)) ((hfr _ (by omega)).trans hM.1) rfl (fun w h => List.mem_cons_of_mem _ (List.mem_append_left _ (List.mem_append_left _ (List.mem_append_right _ h)))) 2 (by decide) (List.mem_of_getElem? (i := 3) rfl) rfl rfl dX0_moveAll_75 ?_
                    refine lv_iload_n hX0 hB0 dX0_moveAll_78 rfl (lv_at hl 0 rfl) ?_
                    refine z_aald (o := some (m + 16 + 4 * j.toNat)) CX hW ((hfr _ (by omega)).trans hM.2.2.2.2.2.2.2.2.1) 3 rfl (by refine ⟨?_, ?_, ?_⟩ <;> omega) rfl dX0_moveAll_79 ?_
                    refine lv_aload_n hX0 hB0 dX0_moveAll_80 rfl (lv_at hl 2 rfl) ?_
                    refine z_get (Cn := RX0) (T := TX0) (N := 10) CX hW (v := .int (zI p)) ((hfr _ (by omega)).trans hM.1) rfl (fun w h => List.mem_cons_of_mem _ (List.mem_append_left _ (List.mem_append_left _ (List.mem_append_right _ h)))) 9 (by decide) (List.mem_of_getElem? (i := 7) rfl) rfl rfl dX0_moveAll_81 ?_
                    refine z_callv hW (va_runV (C := RX2) (As := [.ref (m + 14 + 4 * i.toNat), .ref (m + 16 + 4 * j.toNat), .int (zI p)]) (rest := []) CX.fix (c_product l (f := g) (m + 6) (m + 7) s1 (m + 14 + 4 * i.toNat) (m + 14 + 4 * i.toNat + 1) (zpws nx p i.toNat) (m + 16 + 4 * j.toNat) (m + 16 + 4 * j.toNat + 1) (zpws ny p j.toNat) p hsc.1 hsc.2 (hX i.toNat (by omega)).1 (hX i.toNat (by omega)).2 (hY j.toNat (by omega)).1 (hY j.toNat (by omega)).2 (by omega) (by omega) (by exact zcan_le (zpws_can nx (by omega) _) (by omega)) (by exact zcan_le (zpws_can ny (by omega) _) (by omega)) (by omega)) (cwV 3 CX.fix.2.2.2.2 gX0_moveAll_X2_product rfl rfl rfl (by decide +kernel) ⟨Nat.le_of_ble_eq_true rfl, Nat.le_of_ble_eq_true rfl⟩) (z_preV CX hW (r := (RX2, TX2, 1)) hsc.1 rfl) rfl rfl hl.1 rfl (lv_room (Nat.le_of_ble_eq_true rfl)) dX0_moveAll_84 ⟨Nat.zero_le _, Nat.zero_le _⟩) (fun gn H locs hok84 hW => ?_)
                    have eg : gn = va_up g (m + 7) (zA cI 25 (zprod (zpws nx p i.toNat) (zpws ny p j.toNat) p)) := hok84
                    rw [eg] at hW
                    clear eg
                    refine lv_iconst (v := zI 0) hX0 hB0 dX0_moveAll_87 rfl ?_
                    refine lv_istore (lv' := [(4, .int (zI 0)), (3, .int (zI j)), (2, .int (zI i)), (0, .ref m), (1, .ref a)]) hX0 hB0 dX0_moveAll_88 hl (by decide) rfl (fun ls hl => ?_)
                    have hL90 : ∀ (fu : Nat) (k : Int) (g : Nat → va_E) (R1 : Nat → Nat → Int) (s1 : Nat → Int), ((∀ x, ¬ (m + 14 ≤ x ∧ x < m + 46) ∧ x ≠ m + 7 → g x = f x) ∧ (∀ k, k < 5 → zPoly cI g (m + 14 + 4 * k) (zpws nx p k)) ∧ (∀ k, k < 5 → zPoly cI g (m + 16 + 4 * k) (zpws ny p k)) ∧ (∀ k, k < 6 → zPoly cI g (m + 34 + 2 * k) (R1 k)) ∧ zPoly cI g (m + 6) s1 ∧ 0 ≤ k ∧ (k ≤ n ∨ k = 0) ∧ s1 = zprod (zpws nx p i.toNat) (zpws ny p j.toNat) p ∧ (∀ q : Nat, (q : Int) < k → R1 q = zmvI (C q) (zpws nx p) (zpws ny p) p i j (Rj q)) ∧ (∀ q : Nat, k ≤ (q : Int) → R1 q = Rj q) ∧ ∀ k, k < 6 → zcan 31 (R1 k)) → (7 - k).toNat < fu → ∀ (H : Heap) (locs : List Loc) (ls : Array Slot), zW D (zT cI cJ cZ cP cS cM) L (zQ L sz) st g st.heap H locs → lv_has ls 5 [(4, .int (zI k)), (3, .int (zI j)), (2, .int (zI i)), (0, .ref m), (1, .ref a)] → W pg l en ({ frames := 3, cells := 0, slots := 0, locals := 78 } : Room) st mi ag bl mt cd H locs 0 0 Q (F0 mi 90 ls []) := by
                      intro fu
                      induction fu with
                      | zero => intro k g R1 s1 _ hfu; exact absurd hfu (Nat.not_lt_zero _)
                      | succ fu ih90 =>
                        intro k g R1 s1 hinv90 hfu90 H locs ls hW hl
                        obtain ⟨hfr, hX, hY, hRS, hsc, hk0, hk1, hs1, hlo, hhi, hRc⟩ := hinv90
                        have hSg := hS.same (g := g) (fun q h1 h2 => hfr q (by omega))
                        refine lv_iload hX0 hB0 dX0_moveAll_90 (lv_at hl 0 rfl) ?_
                        refine lv_aload_n hX0 hB0 dX0_moveAll_92 rfl (lv_at hl 4 rfl) ?_
                        refine z_get (Cn := RX7) (T := TX7) (N := 4) CX hW (v := .int (zI n)) ((hfr _ (by omega)).trans hS.1) rfl (fun w h => List.mem_cons_of_mem _ (List.mem_append_left _ (List.mem_append_right _ h))) 1 (by decide) (List.mem_of_getElem? (i := 8) rfl) rfl rfl dX0_moveAll_93 ?_
                        refine z_icmp_ge (tgt := 142) CX dX0_moveAll_96 (by decide) (by constructor <;> omega) (by constructor <;> omega) (fun c_96 => ?_) (fun c_96 => ?_)
                        ·
                          refine lv_iinc (v := zI (j + 1)) (lv' := [(3, .int (zI (j + 1))), (4, .int (zI k)), (2, .int (zI i)), (0, .ref m), (1, .ref a)]) hX0 hB0 dX0_moveAll_142 hl (k := 1) rfl (zI_add _ _) (by decide) rfl (fun ls hl => ?_)
                          refine lv_goto (tgt := 57) hX0 hB0 dX0_moveAll_145 (by decide) ?_
                          exact ih57 (j + 1) g R1 s1 ⟨hfr, hX, hY, hRS, hsc, by omega, by omega, fun q hq => by
                            rw [zfor_s _ _ _ hj0, ← hzj1 q hq, hlo q (by omega)], hRc⟩ (by omega) H locs ls hW (lv_sub hl [0, 2, 3, 4] rfl)
                        ·
                          refine lv_iload hX0 hB0 dX0_moveAll_99 (lv_at hl 0 rfl) ?_
                          refine lv_bipush (v := zI 6) hX0 hB0 dX0_moveAll_101 (by decide) ?_
                          refine z_icmp_ge (tgt := 142) CX dX0_moveAll_103 (by decide) (by constructor <;> omega) (by constructor <;> omega) (fun c_103 => ?_) (fun c_103 => ?_)
                          ·
                            omega
                          ·
                            refine lv_aload_n hX0 hB0 dX0_moveAll_106 rfl (lv_at hl 3 rfl) ?_
                            refine z_get (Cn := RX0) (T := TX0) (N := 10) CX hW (v := .ref (m + 5)) ((hfr _ (by omega)).trans hM.1) rfl (fun w h => List.mem_cons_of_mem _ (List.mem_append_left _ (List.mem_append_left _ (List.mem_append_right _ h)))) 3 (by decide) (List.mem_of_getElem? (i := 5) rfl) rfl rfl dX0_moveAll_107 ?_
                            refine lv_iload hX0 hB0 dX0_moveAll_110 (lv_at hl 0 rfl) ?_
                            refine z_aald (o := some (m + 34 + 2 * k.toNat)) CX hW ((hfr _ (by omega)).trans hM.2.2.2.2.2.2.2.2.2.1) 3 rfl (by refine ⟨?_, ?_, ?_⟩ <;> omega) rfl dX0_moveAll_112 ?_
                            refine lv_aload_n hX0 hB0 dX0_moveAll_113 rfl (lv_at hl 3 rfl) ?_
                            refine z_get (Cn := RX0) (T := TX0) (N := 10) CX hW (v := .ref (m + 6)) ((hfr _ (by omega)).trans hM.1) rfl (fun w h => List.mem_cons_of_mem _ (List.mem_append_left _ (List.mem_append_left _ (List.mem_append_right _ h)))) 4 (by decide) (List.mem_of_getElem? (i := 6) rfl) rfl rfl dX0_moveAll_114 ?_
                            refine lv_aload_n hX0 hB0 dX0_moveAll_117 rfl (lv_at hl 4 rfl) ?_
                            refine z_getN (host := "CurveMeets") (Cn := RX7) (T := TX7) (N := 4) CX hW (v := .ref (a + 1)) ((hfr _ (by omega)).trans hS.1) rfl (fun w h => List.mem_cons_of_mem _ (List.mem_append_left _ (List.mem_append_right _ h))) 2 (by decide) (by decide +kernel) rfl rfl dX0_moveAll_118 ?_
                            refine lv_iload hX0 hB0 dX0_moveAll_121 (lv_at hl 0 rfl) ?_
                            refine z_aald (o := some (a + 3 + 2 * k.toNat)) CX hW ((hfr _ (by omega)).trans hS.2.1) 3 rfl (by refine ⟨?_, ?_, ?_⟩ <;> omega) rfl dX0_moveAll_123 ?_
                            refine lv_iload_n hX0 hB0 dX0_moveAll_124 rfl (lv_at hl 2 rfl) ?_
                            refine lv_iload_n hX0 hB0 dX0_moveAll_125 rfl (lv_at hl 1 rfl) ?_
                            refine z_calli hW (va_runV (C := RX2) (As := [.int (zI i), .int (zI j)]) (rest := [.ref (m + 6), .ref (m + 34 + 2 * k.toNat)]) CX.fix (c_at l (f := g) (a + 3 + 2 * k.toNat) (a + 3 + 2 * k.toNat + 1) (C k.toNat) i j (hSg.2.2.2 k.toNat (by omega)).1 (hSg.2.2.2 k.toNat (by omega)).2 (by constructor <;> omega) (by constructor <;> omega)) (cwV 2 CX.fix.2.2.2.2 gX0_moveAll_X2_at rfl rfl rfl (by decide +kernel) ⟨Nat.le_of_ble_eq_true rfl, Nat.le_of_ble_eq_true rfl⟩) (z_preV CX hW (r := (RX2, TX2, 1)) (hSg.2.2.2 k.toNat (by omega)).1 rfl) rfl rfl hl.1 rfl (lv_room (Nat.le_of_ble_eq_true rfl)) dX0_moveAll_126 ⟨Nat.zero_le _, Nat.zero_le _⟩) (fun zv gn H locs hok126 hW => ?_)
                            obtain ⟨ez, eg⟩ := hok126
                            have eg : gn = g := eg
                            rw [eg] at hW
                            clear eg
                            have ez : zv = zat (C k.toNat) i j := ez
                            rw [ez]
                            clear ez
                            have hatc := zat_can (p := p) (by omega) (hC k.toNat (by omega)) i j
                            refine lv_aload_n hX0 hB0 dX0_moveAll_129 rfl (lv_at hl 3 rfl) ?_
                            refine z_get (Cn := RX0) (T := TX0) (N := 10) CX hW (v := .int (zI p)) ((hfr _ (by omega)).trans hM.1) rfl (fun w h => List.mem_cons_of_mem _ (List.mem_append_left _ (List.mem_append_left _ (List.mem_append_right _ h)))) 9 (by decide) (List.mem_of_getElem? (i := 7) rfl) rfl rfl dX0_moveAll_130 ?_
                            refine z_callv hW (va_runV (C := RX2) (As := [.ref (m + 6), .int (zI (zat (C k.toNat) i j)), .int (zI p)]) (rest := []) CX.fix (c_add l (f := g) (m + 34 + 2 * k.toNat) (m + 34 + 2 * k.toNat + 1) (R1 k.toNat) (m + 6) (m + 7) s1 (zat (C k.toNat) i j) p (hRS k.toNat (by omega)).1 (hRS k.toNat (by omega)).2 hsc.1 hsc.2 (by omega) (by first | exact hRc k.toNat (by omega) | (rw [hs1]; exact zcan_le (zprod_can (by omega)) (by omega))) (by first | exact hRc k.toNat (by omega) | (rw [hs1]; exact zcan_le (zprod_can (by omega)) (by omega))) (by constructor <;> omega) (by constructor <;> omega)) (cwV 3 CX.fix.2.2.2.2 gX0_moveAll_X2_add rfl rfl rfl (by decide +kernel) ⟨Nat.le_of_ble_eq_true rfl, Nat.le_of_ble_eq_true rfl⟩) (z_preV CX hW (r := (RX2, TX2, 1)) (hRS k.toNat (by omega)).1 rfl) rfl rfl hl.1 rfl (lv_room (Nat.le_of_ble_eq_true rfl)) dX0_moveAll_133 ⟨Nat.zero_le _, Nat.zero_le _⟩) (fun gn H locs hok133 hW => ?_)
                            have eg : gn = va_up g (m + 34 + 2 * k.toNat + 1) (zA cI 25 (zaddS (R1 k.toNat) s1 0 0 (zat (C k.toNat) i j) p)) := hok133
                            rw [eg] at hW
                            clear eg
                            refine lv_iinc (v := zI (k + 1)) (lv' := [(4, .int (zI (k + 1))), (3, .int (zI j)), (2, .int (zI i)), (0, .ref m), (1, .ref a)]) hX0 hB0 dX0_moveAll_136 hl (k := 0) rfl (zI_add _ _) (by decide) rfl (fun ls hl => ?_)
                            refine lv_goto (tgt := 90) hX0 hB0 dX0_moveAll_139 (by decide) ?_
                            exact ih90 (k + 1) (va_up g (m + 34 + 2 * k.toNat + 1) (zA cI 25 (zaddS (R1 k.toNat) s1 0 0 (zat (C k.toNat) i j) p))) (zset R1 k.toNat (zaddS (R1 k.toNat) s1 0 0 (zat (C k.toNat) i j) p)) s1 ⟨fun x hx => ((va_up_ne _ _ (by omega)).trans ((hfr _ (by omega)).trans rfl)), fun q hq => (hX q hq).same ((va_up_ne _ _ (by omega)).trans rfl) ((va_up_ne _ _ (by omega)).trans rfl), fun q hq => (hY q hq).same ((va_up_ne _ _ (by omega)).trans rfl) ((va_up_ne _ _ (by omega)).trans rfl), fun q hq => by
                              by_cases eq : q = k.toNat
                              · subst eq
                                rw [zset_self]
                                exact ⟨(va_up_ne _ _ (by omega)).trans (hRS k.toNat (by omega)).1, va_up_self _ _ _⟩
                              · rw [zset_ne _ _ eq]
                                exact (hRS q hq).same (va_up_ne _ _ (by omega)) (va_up_ne _ _ (by omega)), hsc.same ((va_up_ne _ _ (by omega)).trans rfl) ((va_up_ne _ _ (by omega)).trans rfl), by omega, by omega, hs1, fun q hq => by
                              by_cases eq : q = k.toNat
                              · rw [eq, zset_self, hhi _ (by omega), hs1]; rfl
                              · rw [zset_ne _ _ eq]; exact hlo q (by omega), fun q hq => by
                              rw [zset_ne _ _ (by omega)]; exact hhi q (by omega), fun q hq => by
                              by_cases eq : q = k.toNat
                              · rw [eq, zset_self]; exact zaddS_can (by omega) (by omega) (hRc _ (by omega))
                              · rw [zset_ne _ _ eq]; exact hRc q hq⟩ (by omega) H locs ls hW (lv_sub hl [0, 1, 2, 3, 4] rfl)
                    exact hL90 _ 0 (va_up g (m + 7) (zA cI 25 (zprod (zpws nx p i.toNat) (zpws ny p j.toNat) p))) R1 (zprod (zpws nx p i.toNat) (zpws ny p j.toNat) p) ⟨fun x hx => ((va_up_ne _ _ (by omega)).trans ((hfr _ (by omega)).trans rfl)), fun q hq => (hX q hq).same ((va_up_ne _ _ (by omega)).trans rfl) ((va_up_ne _ _ (by omega)).trans rfl), fun q hq => (hY q hq).same ((va_up_ne _ _ (by omega)).trans rfl) ((va_up_ne _ _ (by omega)).trans rfl), fun q hq => (hRS q hq).same ((va_up_ne _ _ (by omega)).trans rfl) ((va_up_ne _ _ (by omega)).trans rfl), ⟨((va_up_ne _ _ (by omega)).trans hsc.1), va_up_self _ _ _⟩, by omega, by omega, rfl, fun q hq => by omega, fun q hq => by rw [hRj], hRc⟩ (Nat.lt_succ_self _) H locs ls hW (lv_sub hl [0, 1, 2, 3, 4] rfl)
              exact hL57 _ 0 g R1 s1 ⟨hfr, hX, hY, hRS, hsc, by omega, by omega, fun q hq => by rw [hR0]; exact (zfor_0 _ _ _).symm, hRc⟩ (Nat.lt_succ_self _) H locs ls hW (lv_sub hl [0, 1, 2, 3] rfl)
        exact hL50 _ 0 g R1 s1 ⟨hfr, hX, hY, hRS, hsc, by omega, by omega, fun q hq => (hz q (by omega)).trans (zfor_0 _ _ _).symm, fun q hq => by rw [hz q (by omega)]; exact zone_can (by omega) (by omega)⟩ (Nat.lt_succ_self _) H locs ls hW (lv_sub hl [0, 1, 2] rfl)
      ·
        refine lv_aload_n hX0 hB0 dX0_moveAll_32 rfl (lv_at hl 1 rfl) ?_
        refine z_get (Cn := RX0) (T := TX0) (N := 10) CX hW (v := .ref (m + 5)) ((hfr _ (by omega)).trans hM.1) rfl (fun w h => List.mem_cons_of_mem _ (List.mem_append_left _ (List.mem_append_left _ (List.mem_append_right _ h)))) 3 (by decide) (List.mem_of_getElem? (i := 5) rfl) rfl rfl dX0_moveAll_33 ?_
        refine lv_iload_n hX0 hB0 dX0_moveAll_36 rfl (lv_at hl 0 rfl) ?_
        refine z_aald (o := some (m + 34 + 2 * k.toNat)) CX hW ((hfr _ (by omega)).trans hM.2.2.2.2.2.2.2.2.2.1) 3 rfl (by refine ⟨?_, ?_, ?_⟩ <;> omega) rfl dX0_moveAll_37 ?_
        refine lv_iconst (v := zI 0) hX0 hB0 dX0_moveAll_38 rfl ?_
        refine z_callv hW (va_runV (C := RX2) (As := [.int (zI 0)]) (rest := []) CX.fix (c_setTo l (f := g) (m + 34 + 2 * k.toNat) (m + 34 + 2 * k.toNat + 1) (R1 k.toNat) 0 (hRS k.toNat (by omega)).1 (hRS k.toNat (by omega)).2) (cwV 1 CX.fix.2.2.2.2 gX0_moveAll_X2_setTo rfl rfl rfl (by decide +kernel) ⟨Nat.le_of_ble_eq_true rfl, Nat.le_of_ble_eq_true rfl⟩) (z_preV CX hW (r := (RX2, TX2, 1)) (hRS k.toNat (by omega)).1 rfl) rfl rfl hl.1 rfl (lv_room (Nat.le_of_ble_eq_true rfl)) dX0_moveAll_39 ⟨Nat.zero_le _, Nat.zero_le _⟩) (fun gn H locs hok39 hW => ?_)
        have eg : gn = va_up g (m + 34 + 2 * k.toNat + 1) (zA cI 25 (zone 0)) := hok39
        rw [eg] at hW
        clear eg
        refine lv_iinc (v := zI (k + 1)) (lv' := [(2, .int (zI (k + 1))), (0, .ref m), (1, .ref a)]) hX0 hB0 dX0_moveAll_42 hl (k := 0) rfl (zI_add _ _) (by decide) rfl (fun ls hl => ?_)
        refine lv_goto (tgt := 26) hX0 hB0 dX0_moveAll_45 (by decide) ?_
        exact ih26 (k + 1) (va_up g (m + 34 + 2 * k.toNat + 1) (zA cI 25 (zone 0))) (zset R1 k.toNat (zone 0)) s1 ⟨fun x hx => ((va_up_ne _ _ (by omega)).trans ((hfr _ (by omega)).trans rfl)), fun q hq => (hX q hq).same ((va_up_ne _ _ (by omega)).trans rfl) ((va_up_ne _ _ (by omega)).trans rfl), fun q hq => (hY q hq).same ((va_up_ne _ _ (by omega)).trans rfl) ((va_up_ne _ _ (by omega)).trans rfl), fun q hq => by
          by_cases eq : q = k.toNat
          · subst eq
            rw [zset_self]
            exact ⟨(va_up_ne _ _ (by omega)).trans (hRS k.toNat (by omega)).1, va_up_self _ _ _⟩
          · rw [zset_ne _ _ eq]
            exact (hRS q hq).same (va_up_ne _ _ (by omega)) (va_up_ne _ _ (by omega)), hsc.same ((va_up_ne _ _ (by omega)).trans rfl) ((va_up_ne _ _ (by omega)).trans rfl), by omega, by omega, fun j hj => by
          by_cases ej : j = k.toNat
          · rw [ej, zset_self]
          · rw [zset_ne _ _ ej]; exact hz j (by omega)⟩ (by omega) H locs ls hW (lv_sub hl [0, 1, 2] rfl)
  exact hL26 _ 0 g21 RS sc ⟨fun x hx => ((hfr21 _ (by omega)).trans ((hfr9 _ (by omega)).trans rfl)), fun q hq => by
    have e1 := hpw9 q hq
    exact e1.same ((hfr21 _ (by omega)).trans rfl) ((hfr21 _ (by omega)).trans rfl), fun q hq => hpw21 q hq, fun q hq => (hM.2.2.2.2.2.2.2.2.2.2.2.2 q hq).same ((hfr21 _ (by omega)).trans ((hfr9 _ (by omega)).trans rfl)) ((hfr21 _ (by omega)).trans ((hfr9 _ (by omega)).trans rfl)), hM.2.2.1.same ((hfr21 _ (by omega)).trans ((hfr9 _ (by omega)).trans rfl)) ((hfr21 _ (by omega)).trans ((hfr9 _ (by omega)).trans rfl)), by omega, by omega, fun j hj => by omega⟩ (Nat.lt_succ_self _) H locs ls hW (lv_sub hl [0, 1, 2] rfl)
end ZMv
