section ZMk
/-- x times one letter, y times the other, one -/
def zlin3 (x y one : Int) : Nat → Int := zput (zput (zone one) 1 0 x) 0 1 y
theorem zlin3_can {p x y one : Int} (hx : 0 ≤ x ∧ x < p) (hy : 0 ≤ y ∧ y < p) (h1 : 0 ≤ one ∧ one < p) : zcan p (zlin3 x y one) := zcan_put (zcan_put (zone_can (by omega) h1) _ _ hx) _ _ hy
def zdet (nx ny : Nat → Int) (p : Int) : Int := (zat nx 1 0 * zat ny 0 1 - zat nx 0 1 * zat ny 1 0) % p
theorem zdet_rng (nx ny : Nat → Int) {p : Int} (hp : 0 < p) : 0 ≤ zdet nx ny p ∧ zdet nx ny p < p := zmr _ hp
/-- where a MOVE brings a POINT -/
def zwhL (nx ny : Nat → Int) (p x y : Int) : Int := zinv (zdet nx ny p) p * ((zat ny 0 1 * x - zat nx 0 1 * y) % p) % p
def zwhR (nx ny : Nat → Int) (p x y : Int) : Int := zinv (zdet nx ny p) p * ((zat nx 1 0 * y - zat ny 1 0 * x) % p) % p
def zwhP (z p L R : Int) : Int := if z = 1 then L * p + R else if L = 0 then p * p + p else p * p + R * zinv L p % p
def zwh (nx ny : Nat → Int) (p x y z : Int) : Int := zwhP z p (zwhL nx ny p (x - z * zat nx 0 0) (y - z * zat ny 0 0)) (zwhR nx ny p (x - z * zat nx 0 0) (y - z * zat ny 0 0))
/-- the line that is made -/
def zml (x y one p : Int) : Nat → Int := if ztop (zlin3 (x % p) (y % p) (one % p)) < 1 then zlin3 (x % p) (y % p) (one % p) else znorm (zlin3 (x % p) (y % p) (one % p)) p
theorem zml_can {x y one p : Int} (hp : 0 < p) : zcan p (zml x y one p) := by
  unfold zml
  split
  · exact zlin3_can (zmr _ hp) (zmr _ hp) (zmr _ hp)
  · exact znorm_can _ hp
def zmlb (x y one p : Int) : Int := if ztop (zlin3 (x % p) (y % p) (one % p)) < 1 then 0 else 1
/-- the DERIVATIVE -/
def zder_in (d : Nat → Int) (bx p i : Int) : Int → (Nat → Int) → (Nat → Int) := fun j c => if zat d i j * (if bx = 0 then j else i) % p = 0 then c else zput c (if bx = 0 then i else i - 1) (if bx = 0 then j - 1 else j) (zat d i j * (if bx = 0 then j else i) % p)
def zder_out (d : Nat → Int) (bx p : Int) : Int → (Nat → Int) → (Nat → Int) := fun i c => zfor (zder_in d bx p i) 0 c (4 - i + 1 - 0).toNat
def zder (d : Nat → Int) (bx p : Int) : Nat → Int := zfor (zder_out d bx p) 0 (zone 0) (5 - 0 : Int).toNat
theorem zder_can {d : Nat → Int} {bx p : Int} (hp : 0 < p) : zcan p (zder d bx p) :=
  zfor_inv (zcan p) (zone_can hp (by omega)) (fun i c hc => zfor_inv (zcan p) hc (fun j c hc => by
    show zcan p (zder_in d bx p i j c)
    unfold zder_in
    by_cases h : zat d i j * (if bx = 0 then j else i) % p = 0
    · rw [if_pos h]
      exact hc
    · rw [if_neg h]
      exact zcan_put hc _ _ (zmr _ hp)) _) _
/-- the powers of a POLYNOMIAL -/
def zpws (d : Nat → Int) (p : Int) : Nat → Nat → Int
  | 0 => zone 1
  | k + 1 => zprod (zpws d p k) d p
theorem zpws_can (d : Nat → Int) {p : Int} (hp : 2 ≤ p) : ∀ k, zcan p (zpws d p k)
  | 0 => zone_can (by omega) (by omega)
  | k + 1 => zprod_can (by omega)
/-- a CURVE with other coordinates -/
def zmvI (c : Nat → Int) (X Y : Nat → Nat → Int) (p i : Int) : Int → (Nat → Int) → (Nat → Int) := fun j r => zaddS r (zprod (X i.toNat) (Y j.toNat) p) 0 0 (zat c i j) p
def zmvO (c : Nat → Int) (X Y : Nat → Nat → Int) (p : Int) : Int → (Nat → Int) → (Nat → Int) := fun i r => zfor (zmvI c X Y p i) 0 r (4 - i + 1 - 0).toNat
def zmv (c : Nat → Int) (X Y : Nat → Nat → Int) (p : Int) : Nat → Int := zfor (zmvO c X Y p) 0 (zone 0) (5 - 0 : Int).toNat
theorem zmv_can {c : Nat → Int} {X Y : Nat → Nat → Int} {p : Int} (hp : 0 < p) : zcan p (zmv c X Y p) :=
  zfor_inv (zcan p) (zone_can hp (by omega)) (fun i r hr => zfor_inv (zcan p) hr (fun j r hr => zaddS_can hp (Int.le_refl p) hr) _) _
/-- a maker at m -/
def zMk (cI cP : ClassId) (f : Nat → va_E) (m : Nat) (p : Int) (md sc nx ny : Nat → Int) (x1 y1 z1 x2 y2 z2 : Int) (PX PY RS : Nat → Nat → Int) : Prop :=
  f m = .inr (0, [.ref (m + 1), .ref (m + 3), .ref (m + 4), .ref (m + 5), .ref (m + 6), .ref (m + 8), .ref (m + 10), .ref (m + 12), .ref (m + 13), .int (zI p)]) ∧ zPoly cI f (m + 1) md ∧ zPoly cI f (m + 6) sc ∧ zPoly cI f (m + 8) nx ∧ zPoly cI f (m + 10) ny ∧ f (m + 12) = .inr (9, [.int (zI x1), .int (zI y1), .int (zI z1)]) ∧ f (m + 13) = .inr (9, [.int (zI x2), .int (zI y2), .int (zI z2)]) ∧
  f (m + 3) = zAR cP 5 (fun k => some (m + 14 + 4 * k)) ∧ f (m + 4) = zAR cP 5 (fun k => some (m + 16 + 4 * k)) ∧ f (m + 5) = zAR cP 6 (fun k => some (m + 34 + 2 * k)) ∧ (∀ k, k < 5 → zPoly cI f (m + 14 + 4 * k) (PX k)) ∧ (∀ k, k < 5 → zPoly cI f (m + 16 + 4 * k) (PY k)) ∧ ∀ k, k < 6 → zPoly cI f (m + 34 + 2 * k) (RS k)
theorem zMk.same {cI cP : ClassId} {f g : Nat → va_E} {m : Nat} {p : Int} {md sc nx ny : Nat → Int} {x1 y1 z1 x2 y2 z2 : Int} {PX PY RS : Nat → Nat → Int} (h : zMk cI cP f m p md sc nx ny x1 y1 z1 x2 y2 z2 PX PY RS) (hs : ∀ q, m ≤ q → q < m + 46 → g q = f q) : zMk cI cP g m p md sc nx ny x1 y1 z1 x2 y2 z2 PX PY RS := by
  obtain ⟨a0, a1, a2, a3, a4, a5, a6, a7, a8, a9, a10, a11, a12⟩ := h
  exact ⟨(hs _ (by omega) (by omega)).trans a0, a1.same (hs _ (by omega) (by omega)) (hs _ (by omega) (by omega)), a2.same (hs _ (by omega) (by omega)) (hs _ (by omega) (by omega)), a3.same (hs _ (by omega) (by omega)) (hs _ (by omega) (by omega)), a4.same (hs _ (by omega) (by omega)) (hs _ (by omega) (by omega)), (hs _ (by omega) (by omega)).trans a5, (hs _ (by omega) (by omega)).trans a6, (hs _ (by omega) (by omega)).trans a7, (hs _ (by omega) (by omega)).trans a8, (hs _ (by omega) (by omega)).trans a9, fun k hk => (a10 k hk).same (hs _ (by omega) (by omega)) (hs _ (by omega) (by omega)), fun k hk => (a11 k hk).same (hs _ (by omega) (by omega)) (hs _ (by omega) (by omega)), fun k hk => (a12 k hk).same (hs _ (by omega) (by omega)) (hs _ (by omega) (by omega))⟩
set_option maxRecDepth 100000 in
set_option maxHeartbeats 4000000 in
/-- Maker.setLinear -/
theorem c_setLinear (l : Launch) {D : va_G} {cI cJ cZ cP cS cM : ClassId} {L : List Nat} {sz : Nat} {f : Nat → va_E} (h0 h : Nat) (c : Nat → Int) (x y n : Int) (hf0 : f h0 = .inr (2, [.ref h])) (hf1 : f h = zA cI 25 c) (hx : -2147483648 ≤ x ∧ x ≤ 2147483647) (hy : -2147483648 ≤ y ∧ y ≤ 2147483647) (hn : -2147483648 ≤ n ∧ n ≤ 2147483647) : zMv l yX0_setLinear wsX0_setLinear 2 44 D (zT cI cJ cZ cP cS cM) L sz f [.ref h0, .int (zI x), .int (zI y), .int (zI n)] (fun g => g = va_up f h (zA cI 25 (zlin3 x y n))) := by
  refine zWalk.met (nL := 4) (ret := none) (cc := cX0_setLinear) (by decide) rfl (Nat.le_of_ble_eq_true rfl) ?_
  intro pg en st mi ag bl mt cd ls CX hW hl
  have CX : zC pg st mi ag mt cd cX0_setLinear 4 none RX0 wsX0_setLinear := CX
  generalize hQ : MQ bl _ ag st 0 0 _ = Q
  have hX0 := CX.1
  have hB0 := CX.2.1
  have hl : lv_has ls 4 [(0, .ref h0), (1, .int (zI x)), (2, .int (zI y)), (3, .int (zI n))] := hl
  obtain ⟨H, eH⟩ : ∃ H, H = st.heap := ⟨_, rfl⟩
  obtain ⟨locs, eL⟩ : ∃ L : List Loc, L = [] := ⟨_, rfl⟩
  have hW : zW D (zT cI cJ cZ cP cS cM) L (zQ L sz) st f st.heap H locs := by rw [eH, eL]; exact hW
  suffices hgo : W pg l en ({ frames := 2, cells := 0, slots := 0, locals := 44 } : Room) st mi ag bl mt cd H locs 0 0 Q (F0 mi 0 ls []) by rw [eH, eL] at hgo; exact hgo
  clear eH eL
  refine lv_aload_n hX0 hB0 dX0_setLinear_0 rfl (lv_at hl 0 rfl) ?_
  refine lv_iload_n hX0 hB0 dX0_setLinear_1 rfl (lv_at hl 3 rfl) ?_
  refine z_callv hW (va_runV (C := RX2) (As := [.int (zI n)]) (rest := []) CX.fix (c_setTo l (f := f) h0 h c n hf0 hf1) (cwV 1 CX.fix.2.2.2.2 gX0_setLinear_X2_setTo rfl rfl rfl (by decide +kernel) ⟨Nat.le_of_ble_eq_true rfl, Nat.le_of_ble_eq_true rfl⟩) (z_preV CX hW (r := (RX2, TX2, 1)) hf0 rfl) rfl rfl hl.1 rfl (lv_room (Nat.le_of_ble_eq_true rfl)) dX0_setLinear_2 ⟨Nat.zero_le _, Nat.zero_le _⟩) (fun gn H locs hok2 hW => ?_)
  have eg : gn = va_up f h (zA cI 25 (zone n)) := hok2
  rw [eg] at hW
  clear eg
  refine lv_aload_n hX0 hB0 dX0_setLinear_5 rfl (lv_at hl 0 rfl) ?_
  refine lv_iconst (v := zI 1) hX0 hB0 dX0_setLinear_6 rfl ?_
  refine lv_iconst (v := zI 0) hX0 hB0 dX0_setLinear_7 rfl ?_
  refine lv_iload_n hX0 hB0 dX0_setLinear_8 rfl (lv_at hl 1 rfl) ?_
  refine z_callv hW (va_runV (C := RX2) (As := [.int (zI 1), .int (zI 0), .int (zI x)]) (rest := []) CX.fix (c_put l (f := va_up f h (zA cI 25 (zone n))) h0 h (zone n) 1 0 x ((va_up_ne _ _ (zne hf0 hf1 zoi)).trans hf0) (va_up_self _ _ _) (by constructor <;> omega) (by constructor <;> omega)) (cwV 3 CX.fix.2.2.2.2 gX0_setLinear_X2_put rfl rfl rfl (by decide +kernel) ⟨Nat.le_of_ble_eq_true rfl, Nat.le_of_ble_eq_true rfl⟩) (z_preV CX hW (r := (RX2, TX2, 1)) ((va_up_ne _ _ (zne hf0 hf1 zoi)).trans hf0) rfl) rfl rfl hl.1 rfl (lv_room (Nat.le_of_ble_eq_true rfl)) dX0_setLinear_9 ⟨Nat.zero_le _, Nat.zero_le _⟩) (fun gn H locs hok9 hW => ?_)
  have eg : gn = va_up f h (zA cI 25 (zput (zone n) 1 0 x)) := (hok9).trans va_up_up
  rw [eg] at hW
  clear eg
  refine lv_aload_n hX0 hB0 dX0_setLinear_12 rfl (lv_at hl 0 rfl) ?_
  refine lv_iconst (v := zI 0) hX0 hB0 dX0_setLinear_13 rfl ?_
  refine lv_iconst (v := zI 1) hX0 hB0 dX0_setLinear_14 rfl ?_
  refine lv_iload_n hX0 hB0 dX0_setLinear_15 rfl (lv_at hl 2 rfl) ?_
  refine z_callv hW (va_runV (C := RX2) (As := [.int (zI 0), .int (zI 1), .int (zI y)]) (rest := []) CX.fix (c_put l (f := va_up f h (zA cI 25 (zput (zone n) 1 0 x))) h0 h (zput (zone n) 1 0 x) 0 1 y ((va_up_ne _ _ (zne hf0 hf1 zoi)).trans hf0) (va_up_self _ _ _) (by constructor <;> omega) (by constructor <;> omega)) (cwV 3 CX.fix.2.2.2.2 gX0_setLinear_X2_put rfl rfl rfl (by decide +kernel) ⟨Nat.le_of_ble_eq_true rfl, Nat.le_of_ble_eq_true rfl⟩) (z_preV CX hW (r := (RX2, TX2, 1)) ((va_up_ne _ _ (zne hf0 hf1 zoi)).trans hf0) rfl) rfl rfl hl.1 rfl (lv_room (Nat.le_of_ble_eq_true rfl)) dX0_setLinear_16 ⟨Nat.zero_le _, Nat.zero_le _⟩) (fun gn H locs hok16 hW => ?_)
  have eg : gn = va_up f h (zA cI 25 (zput (zput (zone n) 1 0 x) 0 1 y)) := (hok16).trans va_up_up
  rw [eg] at hW
  clear eg
  rw [← hQ]
  exact z_vret CX hW (by rfl) dX0_setLinear_19
set_option maxRecDepth 100000 in
set_option maxHeartbeats 4000000 in
/-- Maker.determinant -/
theorem c_determinant (l : Launch) {D : va_G} {cI cJ cZ cP cS cM : ClassId} {L : List Nat} {sz : Nat} {f : Nat → va_E} (m : Nat) (p : Int) (md sc nx ny : Nat → Int) (x1 y1 z1 x2 y2 z2 : Int) (PX PY RS : Nat → Nat → Int) (hM : zMk cI cP f m p md sc nx ny x1 y1 z1 x2 y2 z2 PX PY RS) (hp : 2 ≤ p ∧ p ≤ 31) (hnx : zcan p nx) (hny : zcan p ny) : zMi l yX0_determinant wsX0_determinant 2 43 D (zT cI cJ cZ cP cS cM) L sz f [.ref m] (fun z g => z = zdet nx ny p ∧ g = f) := by
  refine zWalk.met (nL := 1) (ret := (some .int)) (cc := cX0_determinant) (by decide) rfl (Nat.le_of_ble_eq_true rfl) ?_
  intro pg en st mi ag bl mt cd ls CX hW hl
  have CX : zC pg st mi ag mt cd cX0_determinant 1 (some .int) RX0 wsX0_determinant := CX
  generalize hQ : MQ bl _ ag st 0 0 _ = Q
  have hX0 := CX.1
  have hB0 := CX.2.1
  have hl : lv_has ls 1 [(0, .ref m)] := hl
  obtain ⟨H, eH⟩ : ∃ H, H = st.heap := ⟨_, rfl⟩
  obtain ⟨locs, eL⟩ : ∃ L : List Loc, L = [] := ⟨_, rfl⟩
  have hW : zW D (zT cI cJ cZ cP cS cM) L (zQ L sz) st f st.heap H locs := by rw [eH, eL]; exact hW
  suffices hgo : W pg l en ({ frames := 2, cells := 0, slots := 0, locals := 43 } : Room) st mi ag bl mt cd H locs 0 0 Q (F0 mi 0 ls []) by rw [eH, eL] at hgo; exact hgo
  clear eH eL
  have ha0 := zat_can (p := p) (by omega) hnx 1 0
  have ha1 := zat_can (p := p) (by omega) hny 0 1
  have ha2 := zat_can (p := p) (by omega) hnx 0 1
  have ha3 := zat_can (p := p) (by omega) hny 1 0
  have hm1 := zmul_rng (a := zat nx 1 0) (b := zat ny 0 1) (A := 31) (B := 31) (by omega) (by omega)
  have hm2 := zmul_rng (a := zat nx 0 1) (b := zat ny 1 0) (A := 31) (B := 31) (by omega) (by omega)
  refine lv_aload_n hX0 hB0 dX0_determinant_0 rfl (lv_at hl 0 rfl) ?_
  refine z_get (Cn := RX0) (T := TX0) (N := 10) CX hW (v := .ref (m + 8)) hM.1 rfl (fun w h => List.mem_cons_of_mem _ (List.mem_append_left _ (List.mem_append_right _ h))) 5 (by decide) (List.mem_of_getElem? (i := 1) rfl) rfl rfl dX0_determinant_1 ?_
  refine lv_iconst (v := zI 1) hX0 hB0 dX0_determinant_4 rfl ?_
  refine lv_iconst (v := zI 0) hX0 hB0 dX0_determinant_5 rfl ?_
  refine z_calli hW (va_runV (C := RX2) (As := [.int (zI 1), .int (zI 0)]) (rest := []) CX.fix (c_at l (f := f) (m + 8) (m + 9) nx 1 0 hM.2.2.2.1.1 hM.2.2.2.1.2 (by constructor <;> omega) (by constructor <;> omega)) (cwV 2 CX.fix.2.2.2.2 gX0_determinant_X2_at rfl rfl rfl (by decide +kernel) ⟨Nat.le_of_ble_eq_true rfl, Nat.le_of_ble_eq_true rfl⟩) (z_preV CX hW (r := (RX2, TX2, 1)) hM.2.2.2.1.1 rfl) rfl rfl hl.1 rfl (lv_room (Nat.le_of_ble_eq_true rfl)) dX0_determinant_6 ⟨Nat.zero_le _, Nat.zero_le _⟩) (fun zv gn H locs hok6 hW => ?_)
  obtain ⟨ez, eg⟩ := hok6
  have eg : gn = f := eg
  rw [eg] at hW
  clear eg
  have ez : zv = zat nx 1 0 := ez
  rw [ez]
  clear ez
  refine lv_aload_n hX0 hB0 dX0_determinant_9 rfl (lv_at hl 0 rfl) ?_
  refine z_get (Cn := RX0) (T := TX0) (N := 10) CX hW (v := .ref (m + 10)) hM.1 rfl (fun w h => List.mem_cons_of_mem _ (List.mem_append_left _ (List.mem_append_right _ h))) 6 (by decide) (List.mem_of_getElem? (i := 2) rfl) rfl rfl dX0_determinant_10 ?_
  refine lv_iconst (v := zI 0) hX0 hB0 dX0_determinant_13 rfl ?_
  refine lv_iconst (v := zI 1) hX0 hB0 dX0_determinant_14 rfl ?_
  refine z_calli hW (va_runV (C := RX2) (As := [.int (zI 0), .int (zI 1)]) (rest := [.int (zI (zat nx 1 0))]) CX.fix (c_at l (f := f) (m + 10) (m + 11) ny 0 1 hM.2.2.2.2.1.1 hM.2.2.2.2.1.2 (by constructor <;> omega) (by constructor <;> omega)) (cwV 2 CX.fix.2.2.2.2 gX0_determinant_X2_at rfl rfl rfl (by decide +kernel) ⟨Nat.le_of_ble_eq_true rfl, Nat.le_of_ble_eq_true rfl⟩) (z_preV CX hW (r := (RX2, TX2, 1)) hM.2.2.2.2.1.1 rfl) rfl rfl hl.1 rfl (lv_room (Nat.le_of_ble_eq_true rfl)) dX0_determinant_15 ⟨Nat.zero_le _, Nat.zero_le _⟩) (fun zv gn H locs hok15 hW => ?_)
  obtain ⟨ez, eg⟩ := hok15
  have eg : gn = f := eg
  rw [eg] at hW
  clear eg
  have ez : zv = zat ny 0 1 := ez
  rw [ez]
  clear ez
  refine z_imul (z := (zat nx 1 0) * (zat ny 0 1)) CX dX0_determinant_18 rfl ?_
  refine lv_aload_n hX0 hB0 dX0_determinant_19 rfl (lv_at hl 0 rfl) ?_
  refine z_get (Cn := RX0) (T := TX0) (N := 10) CX hW (v := .ref (m + 8)) hM.1 rfl (fun w h => List.mem_cons_of_mem _ (List.mem_append_left _ (List.mem_append_right _ h))) 5 (by decide) (List.mem_of_getElem? (i := 1) rfl) rfl rfl dX0_determinant_20 ?_
  refine lv_iconst (v := zI 0) hX0 hB0 dX0_determinant_23 rfl ?_
  refine lv_iconst (v := zI 1) hX0 hB0 dX0_determinant_24 rfl ?_
  refine z_calli hW (va_runV (C := RX2) (As := [.int (zI 0), .int (zI 1)]) (rest := [.int (zI ((zat nx 1 0) * (zat ny 0 1)))]) CX.fix (c_at l (f := f) (m + 8) (m + 9) nx 0 1 hM.2.2.2.1.1 hM.2.2.2.1.2 (by constructor <;> omega) (by constructor <;> omega)) (cwV 2 CX.fix.2.2.2.2 gX0_determinant_X2_at rfl rfl rfl (by decide +kernel) ⟨Nat.le_of_ble_eq_true rfl, Nat.le_of_ble_eq_true rfl⟩) (z_preV CX hW (r := (RX2, TX2, 1)) hM.2.2.2.1.1 rfl) rfl rfl hl.1 rfl (lv_room (Nat.le_of_ble_eq_true rfl)) dX0_determinant_25 ⟨Nat.zero_le _, Nat.zero_le _⟩) (fun zv gn H locs hok25 hW => ?_)
  obtain ⟨ez, eg⟩ := hok25
  have eg : gn = f := eg
  rw [eg] at hW
  clear eg
  have ez : zv = zat nx 0 1 := ez
  rw [ez]
  clear ez
  refine lv_aload_n hX0 hB0 dX0_determinant_28 rfl (lv_at hl 0 rfl) ?_
  refine z_get (Cn := RX0) (T := TX0) (N := 10) CX hW (v := .ref (m + 10)) hM.1 rfl (fun w h => List.mem_cons_of_mem _ (List.mem_append_left _ (List.mem_append_right _ h))) 6 (by decide) (List.mem_of_getElem? (i := 2) rfl) rfl rfl dX0_determinant_29 ?_
  refine lv_iconst (v := zI 1) hX0 hB0 dX0_determinant_32 rfl ?_
  refine lv_iconst (v := zI 0) hX0 hB0 dX0_determinant_33 rfl ?_
  refine z_calli hW (va_runV (C := RX2) (As := [.int (zI 1), .int (zI 0)]) (rest := [.int (zI (zat nx 0 1)), .int (zI ((zat nx 1 0) * (zat ny 0 1)))]) CX.fix (c_at l (f := f) (m + 10) (m + 11) ny 1 0 hM.2.2.2.2.1.1 hM.2.2.2.2.1.2 (by constructor <;> omega) (by constructor <;> omega)) (cwV 2 CX.fix.2.2.2.2 gX0_determinant_X2_at rfl rfl rfl (by decide +kernel) ⟨Nat.le_of_ble_eq_true rfl, Nat.le_of_ble_eq_true rfl⟩) (z_preV CX hW (r := (RX2, TX2, 1)) hM.2.2.2.2.1.1 rfl) rfl rfl hl.1 rfl (lv_room (Nat.le_of_ble_eq_true rfl)) dX0_determinant_34 ⟨Nat.zero_le _, Nat.zero_le _⟩) (fun zv gn H locs hok34 hW => ?_)
  obtain ⟨ez, eg⟩ := hok34
  have eg : gn = f := eg
  rw [eg] at hW
  clear eg
  have ez : zv = zat ny 1 0 := ez
  rw [ez]
  clear ez
  refine z_imul (z := (zat nx 0 1) * (zat ny 1 0)) CX dX0_determinant_37 rfl ?_
  refine z_isub (z := ((zat nx 1 0) * (zat ny 0 1)) - ((zat nx 0 1) * (zat ny 1 0))) CX dX0_determinant_38 rfl ?_
  refine lv_aload_n hX0 hB0 dX0_determinant_39 rfl (lv_at hl 0 rfl) ?_
  refine z_get (Cn := RX0) (T := TX0) (N := 10) CX hW (v := .int (zI p)) hM.1 rfl (fun w h => List.mem_cons_of_mem _ (List.mem_append_left _ (List.mem_append_right _ h))) 9 (by decide) (List.mem_of_getElem? (i := 3) rfl) rfl rfl dX0_determinant_40 ?_
  refine z_calli hW (va_runSN (As := [.int (zI (((zat nx 1 0) * (zat ny 0 1)) - ((zat nx 0 1) * (zat ny 1 0)))), .int (zI p)]) (rest := []) CX.fix (c_mod l (f := f) (((zat nx 1 0) * (zat ny 0 1)) - ((zat nx 0 1) * (zat ny 1 0))) p (by constructor <;> omega) (by constructor <;> omega)) ⟨va_cnB (own := RX0) (host := "CurveMeets") (index := 51) 2 CX.fix.2.2.2.2 ggX0_determinant_X11_mod rfl rfl rfl (CX.2.2.2.2.2.2.2.1 _ (by decide +kernel)) (CX.at (List.mem_of_getElem? (i := 14) rfl)) (by decide +kernel) ⟨Nat.le_of_ble_eq_true rfl, Nat.le_of_ble_eq_true rfl⟩, CX.at (List.mem_of_getElem? (i := 13) rfl), trivial⟩ (z_preS CX hW) rfl rfl hl.1 rfl (lv_room (Nat.le_of_ble_eq_true rfl)) dX0_determinant_43 ⟨Nat.zero_le _, Nat.zero_le _⟩) (fun zv gn H locs hok43 hW => ?_)
  obtain ⟨ez, eg⟩ := hok43
  have eg : gn = f := eg
  rw [eg] at hW
  clear eg
  have ez : zv = (((zat nx 1 0) * (zat ny 0 1)) - ((zat nx 0 1) * (zat ny 1 0))) % p := ez
  rw [ez]
  clear ez
  have hm43 := zmr (((zat nx 1 0) * (zat ny 0 1)) - ((zat nx 0 1) * (zat ny 1 0))) (p := p) (by omega)
  rw [← hQ]
  exact z_iret (z := (((zat nx 1 0) * (zat ny 0 1)) - ((zat nx 0 1) * (zat ny 1 0))) % p) CX hW (by exact ⟨rfl, rfl⟩) rfl dX0_determinant_46
set_option maxRecDepth 100000 in
set_option maxHeartbeats 4000000 in
/-- Maker.setMove -/
theorem c_setMove (l : Launch) {D : va_G} {cI cJ cZ cP cS cM : ClassId} {L : List Nat} {sz : Nat} {f : Nat → va_E} (m : Nat) (p : Int) (md sc nx ny : Nat → Int) (x1 y1 z1 x2 y2 z2 : Int) (PX PY RS : Nat → Nat → Int) (a b e c d k q : Int) (hM : zMk cI cP f m p md sc nx ny x1 y1 z1 x2 y2 z2 PX PY RS) (hp : 2 ≤ q ∧ q ≤ 31) (ha : -2147483648 ≤ a ∧ a ≤ 2147483647) (hb : -2147483648 ≤ b ∧ b ≤ 2147483647) (he : -2147483648 ≤ e ∧ e ≤ 2147483647) (hc : -2147483648 ≤ c ∧ c ≤ 2147483647) (hd : -2147483648 ≤ d ∧ d ≤ 2147483647) (hk : -2147483648 ≤ k ∧ k ≤ 2147483647) : zMi l yX0_setMove wsX0_setMove 3 67 D (zT cI cJ cZ cP cS cM) L sz f [.ref m, .int (zI a), .int (zI b), .int (zI e), .int (zI c), .int (zI d), .int (zI k), .int (zI q)] (fun z g => z = (if zdet (zlin3 (a % q) (b % q) (e % q)) (zlin3 (c % q) (d % q) (k % q)) q = 0 then 0 else 1) ∧ g = va_up (va_up (va_up f m (.inr (0, [.ref (m + 1), .ref (m + 3), .ref (m + 4), .ref (m + 5), .ref (m + 6), .ref (m + 8), .ref (m + 10), .ref (m + 12), .ref (m + 13), .int (zI q)]))) (m + 9) (zA cI 25 (zlin3 (a % q) (b % q) (e % q)))) (m + 11) (zA cI 25 (zlin3 (c % q) (d % q) (k % q)))) := by
  refine zWalk.met (nL := 8) (ret := (some .boolean)) (cc := cX0_setMove) (by decide) rfl (Nat.le_of_ble_eq_true rfl) ?_
  intro pg en st mi ag bl mt cd ls CX hW hl
  have CX : zC pg st mi ag mt cd cX0_setMove 8 (some .boolean) RX0 wsX0_setMove := CX
  generalize hQ : MQ bl _ ag st 0 0 _ = Q
  have hX0 := CX.1
  have hB0 := CX.2.1
  have hl : lv_has ls 8 [(0, .ref m), (1, .int (zI a)), (2, .int (zI b)), (3, .int (zI e)), (4, .int (zI c)), (5, .int (zI d)), (6, .int (zI k)), (7, .int (zI q))] := hl
  obtain ⟨H, eH⟩ : ∃ H, H = st.heap := ⟨_, rfl⟩
  obtain ⟨locs, eL⟩ : ∃ L : List Loc, L = [] := ⟨_, rfl⟩
  have hW : zW D (zT cI cJ cZ cP cS cM) L (zQ L sz) st f st.heap H locs := by rw [eH, eL]; exact hW
  suffices hgo : W pg l en ({ frames := 3, cells := 0, slots := 0, locals := 67 } : Room) st mi ag bl mt cd H locs 0 0 Q (F0 mi 0 ls []) by rw [eH, eL] at hgo; exact hgo
  clear eH eL
  refine lv_aload_n hX0 hB0 dX0_setMove_0 rfl (lv_at hl 0 rfl) ?_
  refine lv_iload hX0 hB0 dX0_setMove_1 (lv_at hl 7 rfl) ?_
  refine z_put (Cn := RX0) (T := TX0) (N := 10) CX hW (v := .int (zI q)) hM.1 rfl (fun w h => List.mem_cons_of_mem _ (List.mem_append_left _ (List.mem_append_right _ h))) tyX0 tyX0_ok nmX0 9 (by decide) (List.mem_of_getElem? (i := 1) rfl) rfl rfl rfl rfl (Nat.le_of_ble_eq_true rfl) (g := va_up f m (.inr (0, [.ref (m + 1), .ref (m + 3), .ref (m + 4), .ref (m + 5), .ref (m + 6), .ref (m + 8), .ref (m + 10), .ref (m + 12), .ref (m + 13), .int (zI q)]))) rfl dX0_setMove_3 (fun H locs hW => ?_)
  refine lv_aload_n hX0 hB0 dX0_setMove_6 rfl (lv_at hl 0 rfl) ?_
  refine z_get (Cn := RX0) (T := TX0) (N := 10) CX hW (v := .ref (m + 8)) (va_up_self _ _ _) rfl (fun w h => List.mem_cons_of_mem _ (List.mem_append_left _ (List.mem_append_right _ h))) 5 (by decide) (List.mem_of_getElem? (i := 2) rfl) rfl rfl dX0_setMove_7 ?_
  refine lv_iload_n hX0 hB0 dX0_setMove_10 rfl (lv_at hl 1 rfl) ?_
  refine lv_aload_n hX0 hB0 dX0_setMove_11 rfl (lv_at hl 0 rfl) ?_
  refine z_get (Cn := RX0) (T := TX0) (N := 10) CX hW (v := .int (zI q)) (va_up_self _ _ _) rfl (fun w h => List.mem_cons_of_mem _ (List.mem_append_left _ (List.mem_append_right _ h))) 9 (by decide) (List.mem_of_getElem? (i := 1) rfl) rfl rfl dX0_setMove_12 ?_
  refine z_calli hW (va_runSN (As := [.int (zI a), .int (zI q)]) (rest := [.ref (m + 8)]) CX.fix (c_mod l (f := va_up f m (.inr (0, [.ref (m + 1), .ref (m + 3), .ref (m + 4), .ref (m + 5), .ref (m + 6), .ref (m + 8), .ref (m + 10), .ref (m + 12), .ref (m + 13), .int (zI q)]))) a q (by constructor <;> omega) (by constructor <;> omega)) ⟨va_cnB (own := RX0) (host := "CurveMeets") (index := 51) 2 CX.fix.2.2.2.2 ggX0_setMove_X11_mod rfl rfl rfl (CX.2.2.2.2.2.2.2.1 _ (by decide +kernel)) (CX.at (List.mem_of_getElem? (i := 5) rfl)) (by decide +kernel) ⟨Nat.le_of_ble_eq_true rfl, Nat.le_of_ble_eq_true rfl⟩, CX.at (List.mem_of_getElem? (i := 4) rfl), trivial⟩ (z_preS CX hW) rfl rfl hl.1 rfl (lv_room (Nat.le_of_ble_eq_true rfl)) dX0_setMove_15 ⟨Nat.zero_le _, Nat.zero_le _⟩) (fun zv gn H locs hok15 hW => ?_)
  obtain ⟨ez, eg⟩ := hok15
  have eg : gn = va_up f m (.inr (0, [.ref (m + 1), .ref (m + 3), .ref (m + 4), .ref (m + 5), .ref (m + 6), .ref (m + 8), .ref (m + 10), .ref (m + 12), .ref (m + 13), .int (zI q)])) := eg
  rw [eg] at hW
  clear eg
  have ez : zv = a % q := ez
  rw [ez]
  clear ez
  have hm15 := zmr a (p := q) (by omega)
  refine lv_iload_n hX0 hB0 dX0_setMove_18 rfl (lv_at hl 2 rfl) ?_
  refine lv_aload_n hX0 hB0 dX0_setMove_19 rfl (lv_at hl 0 rfl) ?_
  refine z_get (Cn := RX0) (T := TX0) (N := 10) CX hW (v := .int (zI q)) (va_up_self _ _ _) rfl (fun w h => List.mem_cons_of_mem _ (List.mem_append_left _ (List.mem_append_right _ h))) 9 (by decide) (List.mem_of_getElem? (i := 1) rfl) rfl rfl dX0_setMove_20 ?_
  refine z_calli hW (va_runSN (As := [.int (zI b), .int (zI q)]) (rest := [.int (zI (a % q)), .ref (m + 8)]) CX.fix (c_mod l (f := va_up f m (.inr (0, [.ref (m + 1), .ref (m + 3), .ref (m + 4), .ref (m + 5), .ref (m + 6), .ref (m + 8), .ref (m + 10), .ref (m + 12), .ref (m + 13), .int (zI q)]))) b q (by constructor <;> omega) (by constructor <;> omega)) ⟨va_cnB (own := RX0) (host := "CurveMeets") (index := 51) 2 CX.fix.2.2.2.2 ggX0_setMove_X11_mod rfl rfl rfl (CX.2.2.2.2.2.2.2.1 _ (by decide +kernel)) (CX.at (List.mem_of_getElem? (i := 5) rfl)) (by decide +kernel) ⟨Nat.le_of_ble_eq_true rfl, Nat.le_of_ble_eq_true rfl⟩, CX.at (List.mem_of_getElem? (i := 4) rfl), trivial⟩ (z_preS CX hW) rfl rfl hl.1 rfl (lv_room (Nat.le_of_ble_eq_true rfl)) dX0_setMove_23 ⟨Nat.zero_le _, Nat.zero_le _⟩) (fun zv gn H locs hok23 hW => ?_)
  obtain ⟨ez, eg⟩ := hok23
  have eg : gn = va_up f m (.inr (0, [.ref (m + 1), .ref (m + 3), .ref (m + 4), .ref (m + 5), .ref (m + 6), .ref (m + 8), .ref (m + 10), .ref (m + 12), .ref (m + 13), .int (zI q)])) := eg
  rw [eg] at hW
  clear eg
  have ez : zv = b % q := ez
  rw [ez]
  clear ez
  have hm23 := zmr b (p := q) (by omega)
  refine lv_iload_n hX0 hB0 dX0_setMove_26 rfl (lv_at hl 3 rfl) ?_
  refine lv_aload_n hX0 hB0 dX0_setMove_27 rfl (lv_at hl 0 rfl) ?_
  refine z_get (Cn := RX0) (T := TX0) (N := 10) CX hW (v := .int (zI q)) (va_up_self _ _ _) rfl (fun w h => List.mem_cons_of_mem _ (List.mem_append_left _ (List.mem_append_right _ h))) 9 (by decide) (List.mem_of_getElem? (i := 1) rfl) rfl rfl dX0_setMove_28 ?_
  refine z_calli hW (va_runSN (As := [.int (zI e), .int (zI q)]) (rest := [.int (zI (b % q)), .int (zI (a % q)), .ref (m + 8)]) CX.fix (c_mod l (f := va_up f m (.inr (0, [.ref (m + 1), .ref (m + 3), .ref (m + 4), .ref (m + 5), .ref (m + 6), .ref (m + 8), .ref (m + 10), .ref (m + 12), .ref (m + 13), .int (zI q)]))) e q (by constructor <;> omega) (by constructor <;> omega)) ⟨va_cnB (own := RX0) (host := "CurveMeets") (index := 51) 2 CX.fix.2.2.2.2 ggX0_setMove_X11_mod rfl rfl rfl (CX.2.2.2.2.2.2.2.1 _ (by decide +kernel)) (CX.at (List.mem_of_getElem? (i := 5) rfl)) (by decide +kernel) ⟨Nat.le_of_ble_eq_true rfl, Nat.le_of_ble_eq_true rfl⟩, CX.at (List.mem_of_getElem? (i := 4) rfl), trivial⟩ (z_preS CX hW) rfl rfl hl.1 rfl (lv_room (Nat.le_of_ble_eq_true rfl)) dX0_setMove_31 ⟨Nat.zero_le _, Nat.zero_le _⟩) (fun zv gn H locs hok31 hW => ?_)
  obtain ⟨ez, eg⟩ := hok31
  have eg : gn = va_up f m (.inr (0, [.ref (m + 1), .ref (m + 3), .ref (m + 4), .ref (m + 5), .ref (m + 6), .ref (m + 8), .ref (m + 10), .ref (m + 12), .ref (m + 13), .int (zI q)])) := eg
  rw [eg] at hW
  clear eg
  have ez : zv = e % q := ez
  rw [ez]
  clear ez
  have hm31 := zmr e (p := q) (by omega)
  refine z_callv hW (va_runS (As := [.ref (m + 8), .int (zI (a % q)), .int (zI (b % q)), .int (zI (e % q))]) (rest := []) CX.fix (c_setLinear l (f := va_up f m (.inr (0, [.ref (m + 1), .ref (m + 3), .ref (m + 4), .ref (m + 5), .ref (m + 6), .ref (m + 8), .ref (m + 10), .ref (m + 12), .ref (m + 13), .int (zI q)]))) (m + 8) (m + 9) nx (a % q) (b % q) (e % q) ((va_up_ne _ _ (by omega)).trans hM.2.2.2.1.1) ((va_up_ne _ _ (by omega)).trans hM.2.2.2.1.2) (by constructor <;> omega) (by constructor <;> omega) (by constructor <;> omega)) (va_cwS 4 CX.fix.2.2.2.2 gX0_setMove_X0_setLinear rfl rfl rfl (by decide +kernel) ⟨Nat.le_of_ble_eq_true rfl, Nat.le_of_ble_eq_true rfl⟩) (z_preS CX hW) rfl rfl hl.1 rfl (lv_room (Nat.le_of_ble_eq_true rfl)) dX0_setMove_34 ⟨Nat.zero_le _, Nat.zero_le _⟩) (fun gn H locs hok34 hW => ?_)
  have eg : gn = va_up (va_up f m (.inr (0, [.ref (m + 1), .ref (m + 3), .ref (m + 4), .ref (m + 5), .ref (m + 6), .ref (m + 8), .ref (m + 10), .ref (m + 12), .ref (m + 13), .int (zI q)]))) (m + 9) (zA cI 25 (zlin3 (a % q) (b % q) (e % q))) := hok34
  rw [eg] at hW
  clear eg
  refine lv_aload_n hX0 hB0 dX0_setMove_37 rfl (lv_at hl 0 rfl) ?_
  refine z_get (Cn := RX0) (T := TX0) (N := 10) CX hW (v := .ref (m + 10)) ((va_up_ne _ _ (by omega)).trans (va_up_self _ _ _)) rfl (fun w h => List.mem_cons_of_mem _ (List.mem_append_left _ (List.mem_append_right _ h))) 6 (by decide) (List.mem_of_getElem? (i := 3) rfl) rfl rfl dX0_setMove_38 ?_
  refine lv_iload hX0 hB0 dX0_setMove_41 (lv_at hl 4 rfl) ?_
  refine lv_aload_n hX0 hB0 dX0_setMove_43 rfl (lv_at hl 0 rfl) ?_
  refine z_get (Cn := RX0) (T := TX0) (N := 10) CX hW (v := .int (zI q)) ((va_up_ne _ _ (by omega)).trans (va_up_self _ _ _)) rfl (fun w h => List.mem_cons_of_mem _ (List.mem_append_left _ (List.mem_append_right _ h))) 9 (by decide) (List.mem_of_getElem? (i := 1) rfl) rfl rfl dX0_setMove_44 ?_
  refine z_calli hW (va_runSN (As := [.int (zI c), .int (zI q)]) (rest := [.ref (m + 10)]) CX.fix (c_mod l (f := va_up (va_up f m (.inr (0, [.ref (m + 1), .ref (m + 3), .ref (m + 4), .ref (m + 5), .ref (m + 6), .ref (m + 8), .ref (m + 10), .ref (m + 12), .ref (m + 13), .int (zI q)]))) (m + 9) (zA cI 25 (zlin3 (a % q) (b % q) (e % q)))) c q (by constructor <;> omega) (by constructor <;> omega)) ⟨va_cnB (own := RX0) (host := "CurveMeets") (index := 51) 2 CX.fix.2.2.2.2 ggX0_setMove_X11_mod rfl rfl rfl (CX.2.2.2.2.2.2.2.1 _ (by decide +kernel)) (CX.at (List.mem_of_getElem? (i := 5) rfl)) (by decide +kernel) ⟨Nat.le_of_ble_eq_true rfl, Nat.le_of_ble_eq_true rfl⟩, CX.at (List.mem_of_getElem? (i := 4) rfl), trivial⟩ (z_preS CX hW) rfl rfl hl.1 rfl (lv_room (Nat.le_of_ble_eq_true rfl)) dX0_setMove_47 ⟨Nat.zero_le _, Nat.zero_le _⟩) (fun zv gn H locs hok47 hW => ?_)
  obtain ⟨ez, eg⟩ := hok47
  have eg : gn = va_up (va_up f m (.inr (0, [.ref (m + 1), .ref (m + 3), .ref (m + 4), .ref (m + 5), .ref (m + 6), .ref (m + 8), .ref (m + 10), .ref (m + 12), .ref (m + 13), .int (zI q)]))) (m + 9) (zA cI 25 (zlin3 (a % q) (b % q) (e % q))) := eg
  rw [eg] at hW
  clear eg
  have ez : zv = c % q := ez
  rw [ez]
  clear ez
  have hm47 := zmr c (p := q) (by omega)
  refine lv_iload hX0 hB0 dX0_setMove_50 (lv_at hl 5 rfl) ?_
  refine lv_aload_n hX0 hB0 dX0_setMove_52 rfl (lv_at hl 0 rfl) ?_
  refine z_get (Cn := RX0) (T := TX0) (N := 10) CX hW (v := .int (zI q)) ((va_up_ne _ _ (by omega)).trans (va_up_self _ _ _)) rfl (fun w h => List.mem_cons_of_mem _ (List.mem_append_left _ (List.mem_append_right _ h))) 9 (by decide) (List.mem_of_getElem? (i := 1) rfl) rfl rfl dX0_setMove_53 ?_
  refine z_calli hW (va_runSN (As := [.int (zI d), .int (zI q)]) (rest := [.int (zI (c % q)), .ref (m + 10)]) CX.fix (c_mod l (f := va_up (va_up f m (.inr (0, [.ref (m + 1), .ref (m + 3), .ref (m + 4), .ref (m + 5), .ref (m + 6), .ref (m + 8), .ref (m + 10), .ref (m + 12), .ref (m + 13), .int (zI q)]))) (m + 9) (zA cI 25 (zlin3 (a % q) (b % q) (e % q)))) d q (by constructor <;> omega) (by constructor <;> omega)) ⟨va_cnB (own := RX0) (host := "CurveMeets") (index := 51) 2 CX.fix.2.2.2.2 ggX0_setMove_X11_mod rfl rfl rfl (CX.2.2.2.2.2.2.2.1 _ (by decide +kernel)) (CX.at (List.mem_of_getElem? (i := 5) rfl)) (by decide +kernel) ⟨Nat.le_of_ble_eq_true rfl, Nat.le_of_ble_eq_true rfl⟩, CX.at (List.mem_of_getElem? (i := 4) rfl), trivial⟩ (z_preS CX hW) rfl rfl hl.1 rfl (lv_room (Nat.le_of_ble_eq_true rfl)) dX0_setMove_56 ⟨Nat.zero_le _, Nat.zero_le _⟩) (fun zv gn H locs hok56 hW => ?_)
  obtain ⟨ez, eg⟩ := hok56
  have eg : gn = va_up (va_up f m (.inr (0, [.ref (m + 1), .ref (m + 3), .ref (m + 4), .ref (m + 5), .ref (m + 6), .ref (m + 8), .ref (m + 10), .ref (m + 12), .ref (m + 13), .int (zI q)]))) (m + 9) (zA cI 25 (zlin3 (a % q) (b % q) (e % q))) := eg
  rw [eg] at hW
  clear eg
  have ez : zv = d % q := ez
  rw [ez]
  clear ez
  have hm56 := zmr d (p := q) (by omega)
  refine lv_iload hX0 hB0 dX0_setMove_59 (lv_at hl 6 rfl) ?_
  refine lv_aload_n hX0 hB0 dX0_setMove_61 rfl (lv_at hl 0 rfl) ?_
  refine z_get (Cn := RX0) (T := TX0) (N := 10) CX hW (v := .int (zI q)) ((va_up_ne _ _ (by omega)).trans (va_up_self _ _ _)) rfl (fun w h => List.mem_cons_of_mem _ (List.mem_append_left _ (List.mem_append_right _ h))) 9 (by decide) (List.mem_of_getElem? (i := 1) rfl) rfl rfl dX0_setMove_62 ?_
  refine z_calli hW (va_runSN (As := [.int (zI k), .int (zI q)]) (rest := [.int (zI (d % q)), .int (zI (c % q)), .ref (m + 10)]) CX.fix (c_mod l (f := va_up (va_up f m (.inr (0, [.ref (m + 1), .ref (m + 3), .ref (m + 4), .ref (m + 5), .ref (m + 6), .ref (m + 8), .ref (m + 10), .ref (m + 12), .ref (m + 13), .int (zI q)]))) (m + 9) (zA cI 25 (zlin3 (a % q) (b % q) (e % q)))) k q (by constructor <;> omega) (by constructor <;> omega)) ⟨va_cnB (own := RX0) (host := "CurveMeets") (index := 51) 2 CX.fix.2.2.2.2 ggX0_setMove_X11_mod rfl rfl rfl (CX.2.2.2.2.2.2.2.1 _ (by decide +kernel)) (CX.at (List.mem_of_getElem? (i := 5) rfl)) (by decide +kernel) ⟨Nat.le_of_ble_eq_true rfl, Nat.le_of_ble_eq_true rfl⟩, CX.at (List.mem_of_getElem? (i := 4) rfl), trivial⟩ (z_preS CX hW) rfl rfl hl.1 rfl (lv_room (Nat.le_of_ble_eq_true rfl)) dX0_setMove_65 ⟨Nat.zero_le _, Nat.zero_le _⟩) (fun zv gn H locs hok65 hW => ?_)
  obtain ⟨ez, eg⟩ := hok65
  have eg : gn = va_up (va_up f m (.inr (0, [.ref (m + 1), .ref (m + 3), .ref (m + 4), .ref (m + 5), .ref (m + 6), .ref (m + 8), .ref (m + 10), .ref (m + 12), .ref (m + 13), .int (zI q)]))) (m + 9) (zA cI 25 (zlin3 (a % q) (b % q) (e % q))) := eg
  rw [eg] at hW
  clear eg
  have ez : zv = k % q := ez
  rw [ez]
  clear ez
  have hm65 := zmr k (p := q) (by omega)
  refine z_callv hW (va_runS (As := [.ref (m + 10), .int (zI (c % q)), .int (zI (d % q)), .int (zI (k % q))]) (rest := []) CX.fix (c_setLinear l (f := va_up (va_up f m (.inr (0, [.ref (m + 1), .ref (m + 3), .ref (m + 4), .ref (m + 5), .ref (m + 6), .ref (m + 8), .ref (m + 10), .ref (m + 12), .ref (m + 13), .int (zI q)]))) (m + 9) (zA cI 25 (zlin3 (a % q) (b % q) (e % q)))) (m + 10) (m + 11) ny (c % q) (d % q) (k % q) ((va_up_ne _ _ (by omega)).trans ((va_up_ne _ _ (by omega)).trans hM.2.2.2.2.1.1)) ((va_up_ne _ _ (by omega)).trans ((va_up_ne _ _ (by omega)).trans hM.2.2.2.2.1.2)) (by constructor <;> omega) (by constructor <;> omega) (by constructor <;> omega)) (va_cwS 4 CX.fix.2.2.2.2 gX0_setMove_X0_setLinear rfl rfl rfl (by decide +kernel) ⟨Nat.le_of_ble_eq_true rfl, Nat.le_of_ble_eq_true rfl⟩) (z_preS CX hW) rfl rfl hl.1 rfl (lv_room (Nat.le_of_ble_eq_true rfl)) dX0_setMove_68 ⟨Nat.zero_le _, Nat.zero_le _⟩) (fun gn H locs hok68 hW => ?_)
  have eg : gn = va_up (va_up (va_up f m (.inr (0, [.ref (m + 1), .ref (m + 3), .ref (m + 4), .ref (m + 5), .ref (m + 6), .ref (m + 8), .ref (m + 10), .ref (m + 12), .ref (m + 13), .int (zI q)]))) (m + 9) (zA cI 25 (zlin3 (a % q) (b % q) (e % q)))) (m + 11) (zA cI 25 (zlin3 (c % q) (d % q) (k % q))) := hok68
  rw [eg] at hW
  clear eg
  refine lv_aload_n hX0 hB0 dX0_setMove_71 rfl (lv_at hl 0 rfl) ?_
  refine z_calli hW (va_runV (C := RX0) (As := []) (rest := []) CX.fix (c_determinant l (f := va_up (va_up (va_up f m (.inr (0, [.ref (m + 1), .ref (m + 3), .ref (m + 4), .ref (m + 5), .ref (m + 6), .ref (m + 8), .ref (m + 10), .ref (m + 12), .ref (m + 13), .int (zI q)]))) (m + 9) (zA cI 25 (zlin3 (a % q) (b % q) (e % q)))) (m + 11) (zA cI 25 (zlin3 (c % q) (d % q) (k % q)))) m q md sc (zlin3 (a % q) (b % q) (e % q)) (zlin3 (c % q) (d % q) (k % q)) x1 y1 z1 x2 y2 z2 PX PY RS ⟨((va_up_ne _ _ (by omega)).trans ((va_up_ne _ _ (by omega)).trans (va_up_self _ _ _))), ⟨((va_up_ne _ _ (by omega)).trans ((va_up_ne _ _ (by omega)).trans ((va_up_ne _ _ (by omega)).trans hM.2.1.1))), ((va_up_ne _ _ (by omega)).trans ((va_up_ne _ _ (by omega)).trans ((va_up_ne _ _ (by omega)).trans hM.2.1.2)))⟩, ⟨((va_up_ne _ _ (by omega)).trans ((va_up_ne _ _ (by omega)).trans ((va_up_ne _ _ (by omega)).trans hM.2.2.1.1))), ((va_up_ne _ _ (by omega)).trans ((va_up_ne _ _ (by omega)).trans ((va_up_ne _ _ (by omega)).trans hM.2.2.1.2)))⟩, ⟨((va_up_ne _ _ (by omega)).trans ((va_up_ne _ _ (by omega)).trans ((va_up_ne _ _ (by omega)).trans hM.2.2.2.1.1))), ((va_up_ne _ _ (by omega)).trans (va_up_self _ _ _))⟩, ⟨((va_up_ne _ _ (by omega)).trans ((va_up_ne _ _ (by omega)).trans ((va_up_ne _ _ (by omega)).trans hM.2.2.2.2.1.1))), (va_up_self _ _ _)⟩, ((va_up_ne _ _ (by omega)).trans ((va_up_ne _ _ (by omega)).trans ((va_up_ne _ _ (by omega)).trans hM.2.2.2.2.2.1))), ((va_up_ne _ _ (by omega)).trans ((va_up_ne _ _ (by omega)).trans ((va_up_ne _ _ (by omega)).trans hM.2.2.2.2.2.2.1))), ((va_up_ne _ _ (by omega)).trans ((va_up_ne _ _ (by omega)).trans ((va_up_ne _ _ (by omega)).trans hM.2.2.2.2.2.2.2.1))), ((va_up_ne _ _ (by omega)).trans ((va_up_ne _ _ (by omega)).trans ((va_up_ne _ _ (by omega)).trans hM.2.2.2.2.2.2.2.2.1))), ((va_up_ne _ _ (by omega)).trans ((va_up_ne _ _ (by omega)).trans ((va_up_ne _ _ (by omega)).trans hM.2.2.2.2.2.2.2.2.2.1))), fun k hk => (hM.2.2.2.2.2.2.2.2.2.2.1 k hk).same ((va_up_ne _ _ (by omega)).trans ((va_up_ne _ _ (by omega)).trans ((va_up_ne _ _ (by omega)).trans rfl))) ((va_up_ne _ _ (by omega)).trans ((va_up_ne _ _ (by omega)).trans ((va_up_ne _ _ (by omega)).trans rfl))), fun k hk => (hM.2.2.2.2.2.2.2.2.2.2.2.1 k hk).same ((va_up_ne _ _ (by omega)).trans ((va_up_ne _ _ (by omega)).trans ((va_up_ne _ _ (by omega)).trans rfl))) ((va_up_ne _ _ (by omega)).trans ((va_up_ne _ _ (by omega)).trans ((va_up_ne _ _ (by omega)).trans rfl))), fun k hk => (hM.2.2.2.2.2.2.2.2.2.2.2.2 k hk).same ((va_up_ne _ _ (by omega)).trans ((va_up_ne _ _ (by omega)).trans ((va_up_ne _ _ (by omega)).trans rfl))) ((va_up_ne _ _ (by omega)).trans ((va_up_ne _ _ (by omega)).trans ((va_up_ne _ _ (by omega)).trans rfl)))⟩ (by omega) (by exact zlin3_can (by omega) (by omega) (by omega)) (by exact zlin3_can (by omega) (by omega) (by omega))) (cwV 0 CX.fix.2.2.2.2 gX0_setMove_X0_determinant rfl rfl rfl (by decide +kernel) ⟨Nat.le_of_ble_eq_true rfl, Nat.le_of_ble_eq_true rfl⟩) (z_preV CX hW (r := (RX0, TX0, 10)) ((va_up_ne _ _ (by omega)).trans ((va_up_ne _ _ (by omega)).trans (va_up_self _ _ _))) rfl) rfl rfl hl.1 rfl (lv_room (Nat.le_of_ble_eq_true rfl)) dX0_setMove_72 ⟨Nat.zero_le _, Nat.zero_le _⟩) (fun zv gn H locs hok72 hW => ?_)
  obtain ⟨ez, eg⟩ := hok72
  have eg : gn = va_up (va_up (va_up f m (.inr (0, [.ref (m + 1), .ref (m + 3), .ref (m + 4), .ref (m + 5), .ref (m + 6), .ref (m + 8), .ref (m + 10), .ref (m + 12), .ref (m + 13), .int (zI q)]))) (m + 9) (zA cI 25 (zlin3 (a % q) (b % q) (e % q)))) (m + 11) (zA cI 25 (zlin3 (c % q) (d % q) (k % q))) := eg
  rw [eg] at hW
  clear eg
  have ez : zv = zdet (zlin3 (a % q) (b % q) (e % q)) (zlin3 (c % q) (d % q) (k % q)) q := ez
  rw [ez]
  clear ez
  have hdt72 := zdet_rng (zlin3 (a % q) (b % q) (e % q)) (zlin3 (c % q) (d % q) (k % q)) (p := q) (by omega)
  refine z_if_eq (tgt := 82) CX dX0_setMove_75 (by decide) (by constructor <;> omega) (fun c_75 => ?_) (fun c_75 => ?_)
  ·
    refine lv_iconst (v := zI 0) hX0 hB0 dX0_setMove_82 rfl ?_
    rw [← hQ]
    exact z_iret (z := 0) CX hW (by first | exact ⟨by rw [if_pos c_75], rfl⟩ | exact ⟨by rw [if_neg c_75], rfl⟩) rfl dX0_setMove_83
  ·
    refine lv_iconst (v := zI 1) hX0 hB0 dX0_setMove_78 rfl ?_
    refine lv_goto (tgt := 83) hX0 hB0 dX0_setMove_79 (by decide) ?_
    rw [← hQ]
    exact z_iret (z := 1) CX hW (by first | exact ⟨by rw [if_pos c_75], rfl⟩ | exact ⟨by rw [if_neg c_75], rfl⟩) rfl dX0_setMove_83
set_option maxRecDepth 100000 in
set_option maxHeartbeats 4000000 in
/-- Maker.setLine -/
theorem c_setLine0 (l : Launch) {D : va_G} {cI cJ cZ cP cS cM : ClassId} {L : List Nat} {sz : Nat} {f : Nat → va_E} (m : Nat) (p : Int) (md sc nx ny : Nat → Int) (x1 y1 z1 x2 y2 z2 : Int) (PX PY RS : Nat → Nat → Int) (x y n : Int) (hM : zMk cI cP f m p md sc nx ny x1 y1 z1 x2 y2 z2 PX PY RS) (hp : 2 ≤ p ∧ p ≤ 31) (hx : -2147483648 ≤ x ∧ x ≤ 2147483647) (hy : -2147483648 ≤ y ∧ y ≤ 2147483647) (hn : -2147483648 ≤ n ∧ n ≤ 2147483647) : zMi l yX0_setLine wsX0_setLine 3 69 D (zT cI cJ cZ cP cS cM) L sz f [.ref m, .int (zI x), .int (zI y), .int (zI n)] (fun z g => z = zmlb x y n p ∧ g = va_up f (m + 2) (zA cI 25 (zml x y n p))) := by
  refine zWalk.met (nL := 4) (ret := (some .boolean)) (cc := cX0_setLine) (by decide) rfl (Nat.le_of_ble_eq_true rfl) ?_
  intro pg en st mi ag bl mt cd ls CX hW hl
  have CX : zC pg st mi ag mt cd cX0_setLine 4 (some .boolean) RX0 wsX0_setLine := CX
  generalize hQ : MQ bl _ ag st 0 0 _ = Q
  have hX0 := CX.1
  have hB0 := CX.2.1
  have hl : lv_has ls 4 [(0, .ref m), (1, .int (zI x)), (2, .int (zI y)), (3, .int (zI n))] := hl
  obtain ⟨H, eH⟩ : ∃ H, H = st.heap := ⟨_, rfl⟩
  obtain ⟨locs, eL⟩ : ∃ L : List Loc, L = [] := ⟨_, rfl⟩
  have hW : zW D (zT cI cJ cZ cP cS cM) L (zQ L sz) st f st.heap H locs := by rw [eH, eL]; exact hW
  suffices hgo : W pg l en ({ frames := 3, cells := 0, slots := 0, locals := 69 } : Room) st mi ag bl mt cd H locs 0 0 Q (F0 mi 0 ls []) by rw [eH, eL] at hgo; exact hgo
  clear eH eL
  refine lv_aload_n hX0 hB0 dX0_setLine_0 rfl (lv_at hl 0 rfl) ?_
  refine z_get (Cn := RX0) (T := TX0) (N := 10) CX hW (v := .ref (m + 1)) hM.1 rfl (fun w h => List.mem_cons_of_mem _ (List.mem_append_left _ (List.mem_append_right _ h))) 0 (by decide) (List.mem_of_getElem? (i := 1) rfl) rfl rfl dX0_setLine_1 ?_
  refine lv_iload_n hX0 hB0 dX0_setLine_4 rfl (lv_at hl 1 rfl) ?_
  refine lv_aload_n hX0 hB0 dX0_setLine_5 rfl (lv_at hl 0 rfl) ?_
  refine z_get (Cn := RX0) (T := TX0) (N := 10) CX hW (v := .int (zI p)) hM.1 rfl (fun w h => List.mem_cons_of_mem _ (List.mem_append_left _ (List.mem_append_right _ h))) 9 (by decide) (List.mem_of_getElem? (i := 2) rfl) rfl rfl dX0_setLine_6 ?_
  refine z_calli hW (va_runSN (As := [.int (zI x), .int (zI p)]) (rest := [.ref (m + 1)]) CX.fix (c_mod l (f := f) x p (by constructor <;> omega) (by constructor <;> omega)) ⟨va_cnB (own := RX0) (host := "CurveMeets") (index := 51) 2 CX.fix.2.2.2.2 ggX0_setLine_X11_mod rfl rfl rfl (CX.2.2.2.2.2.2.2.1 _ (by decide +kernel)) (CX.at (List.mem_of_getElem? (i := 4) rfl)) (by decide +kernel) ⟨Nat.le_of_ble_eq_true rfl, Nat.le_of_ble_eq_true rfl⟩, CX.at (List.mem_of_getElem? (i := 3) rfl), trivial⟩ (z_preS CX hW) rfl rfl hl.1 rfl (lv_room (Nat.le_of_ble_eq_true rfl)) dX0_setLine_9 ⟨Nat.zero_le _, Nat.zero_le _⟩) (fun zv gn H locs hok9 hW => ?_)
  obtain ⟨ez, eg⟩ := hok9
  have eg : gn = f := eg
  rw [eg] at hW
  clear eg
  have ez : zv = x % p := ez
  rw [ez]
  clear ez
  have hm9 := zmr x (p := p) (by omega)
  refine lv_iload_n hX0 hB0 dX0_setLine_12 rfl (lv_at hl 2 rfl) ?_
  refine lv_aload_n hX0 hB0 dX0_setLine_13 rfl (lv_at hl 0 rfl) ?_
  refine z_get (Cn := RX0) (T := TX0) (N := 10) CX hW (v := .int (zI p)) hM.1 rfl (fun w h => List.mem_cons_of_mem _ (List.mem_append_left _ (List.mem_append_right _ h))) 9 (by decide) (List.mem_of_getElem? (i := 2) rfl) rfl rfl dX0_setLine_14 ?_
  refine z_calli hW (va_runSN (As := [.int (zI y), .int (zI p)]) (rest := [.int (zI (x % p)), .ref (m + 1)]) CX.fix (c_mod l (f := f) y p (by constructor <;> omega) (by constructor <;> omega)) ⟨va_cnB (own := RX0) (host := "CurveMeets") (index := 51) 2 CX.fix.2.2.2.2 ggX0_setLine_X11_mod rfl rfl rfl (CX.2.2.2.2.2.2.2.1 _ (by decide +kernel)) (CX.at (List.mem_of_getElem? (i := 4) rfl)) (by decide +kernel) ⟨Nat.le_of_ble_eq_true rfl, Nat.le_of_ble_eq_true rfl⟩, CX.at (List.mem_of_getElem? (i := 3) rfl), trivial⟩ (z_preS CX hW) rfl rfl hl.1 rfl (lv_room (Nat.le_of_ble_eq_true rfl)) dX0_setLine_17 ⟨Nat.zero_le _, Nat.zero_le _⟩) (fun zv gn H locs hok17 hW => ?_)
  obtain ⟨ez, eg⟩ := hok17
  have eg : gn = f := eg
  rw [eg] at hW
  clear eg
  have ez : zv = y % p := ez
  rw [ez]
  clear ez
  have hm17 := zmr y (p := p) (by omega)
  refine lv_iload_n hX0 hB0 dX0_setLine_20 rfl (lv_at hl 3 rfl) ?_
  refine lv_aload_n hX0 hB0 dX0_setLine_21 rfl (lv_at hl 0 rfl) ?_
  refine z_get (Cn := RX0) (T := TX0) (N := 10) CX hW (v := .int (zI p)) hM.1 rfl (fun w h => List.mem_cons_of_mem _ (List.mem_append_left _ (List.mem_append_right _ h))) 9 (by decide) (List.mem_of_getElem? (i := 2) rfl) rfl rfl dX0_setLine_22 ?_
  refine z_calli hW (va_runSN (As := [.int (zI n), .int (zI p)]) (rest := [.int (zI (y % p)), .int (zI (x % p)), .ref (m + 1)]) CX.fix (c_mod l (f := f) n p (by constructor <;> omega) (by constructor <;> omega)) ⟨va_cnB (own := RX0) (host := "CurveMeets") (index := 51) 2 CX.fix.2.2.2.2 ggX0_setLine_X11_mod rfl rfl rfl (CX.2.2.2.2.2.2.2.1 _ (by decide +kernel)) (CX.at (List.mem_of_getElem? (i := 4) rfl)) (by decide +kernel) ⟨Nat.le_of_ble_eq_true rfl, Nat.le_of_ble_eq_true rfl⟩, CX.at (List.mem_of_getElem? (i := 3) rfl), trivial⟩ (z_preS CX hW) rfl rfl hl.1 rfl (lv_room (Nat.le_of_ble_eq_true rfl)) dX0_setLine_25 ⟨Nat.zero_le _, Nat.zero_le _⟩) (fun zv gn H locs hok25 hW => ?_)
  obtain ⟨ez, eg⟩ := hok25
  have eg : gn = f := eg
  rw [eg] at hW
  clear eg
  have ez : zv = n % p := ez
  rw [ez]
  clear ez
  have hm25 := zmr n (p := p) (by omega)
  refine z_callv hW (va_runS (As := [.ref (m + 1), .int (zI (x % p)), .int (zI (y % p)), .int (zI (n % p))]) (rest := []) CX.fix (c_setLinear l (f := f) (m + 1) (m + 2) md (x % p) (y % p) (n % p) hM.2.1.1 hM.2.1.2 (by constructor <;> omega) (by constructor <;> omega) (by constructor <;> omega)) (va_cwS 4 CX.fix.2.2.2.2 gX0_setLine_X0_setLinear rfl rfl rfl (by decide +kernel) ⟨Nat.le_of_ble_eq_true rfl, Nat.le_of_ble_eq_true rfl⟩) (z_preS CX hW) rfl rfl hl.1 rfl (lv_room (Nat.le_of_ble_eq_true rfl)) dX0_setLine_28 ⟨Nat.zero_le _, Nat.zero_le _⟩) (fun gn H locs hok28 hW => ?_)
  have eg : gn = va_up f (m + 2) (zA cI 25 (zlin3 (x % p) (y % p) (n % p))) := hok28
  rw [eg] at hW
  clear eg
  have hl3 : zcan p (zlin3 (x % p) (y % p) (n % p)) := zlin3_can (by omega) (by omega) (by omega)
  refine lv_aload_n hX0 hB0 dX0_setLine_31 rfl (lv_at hl 0 rfl) ?_
  refine z_get (Cn := RX0) (T := TX0) (N := 10) CX hW (v := .ref (m + 1)) ((va_up_ne _ _ (by omega)).trans hM.1) rfl (fun w h => List.mem_cons_of_mem _ (List.mem_append_left _ (List.mem_append_right _ h))) 0 (by decide) (List.mem_of_getElem? (i := 1) rfl) rfl rfl dX0_setLine_32 ?_
  refine z_calli hW (va_runV (C := RX2) (As := []) (rest := []) CX.fix (c_top l (f := va_up f (m + 2) (zA cI 25 (zlin3 (x % p) (y % p) (n % p)))) (m + 1) (m + 2) (zlin3 (x % p) (y % p) (n % p)) ((va_up_ne _ _ (by omega)).trans hM.2.1.1) (va_up_self _ _ _) (by exact zcan_le hl3 (by omega))) (cwV 0 CX.fix.2.2.2.2 gX0_setLine_X2_top rfl rfl rfl (by decide +kernel) ⟨Nat.le_of_ble_eq_true rfl, Nat.le_of_ble_eq_true rfl⟩) (z_preV CX hW (r := (RX2, TX2, 1)) ((va_up_ne _ _ (by omega)).trans hM.2.1.1) rfl) rfl rfl hl.1 rfl (lv_room (Nat.le_of_ble_eq_true rfl)) dX0_setLine_35 ⟨Nat.zero_le _, Nat.zero_le _⟩) (fun zv gn H locs hok35 hW => ?_)
  obtain ⟨ez, eg⟩ := hok35
  have eg : gn = va_up f (m + 2) (zA cI 25 (zlin3 (x % p) (y % p) (n % p))) := eg
  rw [eg] at hW
  clear eg
  have ez : zv = ztop (zlin3 (x % p) (y % p) (n % p)) := ez
  rw [ez]
  clear ez
  have htp35 := ztop_rng (zlin3 (x % p) (y % p) (n % p))
  refine lv_iconst (v := zI 1) hX0 hB0 dX0_setLine_38 rfl ?_
  refine z_icmp_ge (tgt := 44) CX dX0_setLine_39 (by decide) (by constructor <;> omega) (by constructor <;> omega) (fun c_39 => ?_) (fun c_39 => ?_)
  ·
    refine lv_aload_n hX0 hB0 dX0_setLine_44 rfl (lv_at hl 0 rfl) ?_
    refine z_get (Cn := RX0) (T := TX0) (N := 10) CX hW (v := .ref (m + 1)) ((va_up_ne _ _ (by omega)).trans hM.1) rfl (fun w h => List.mem_cons_of_mem _ (List.mem_append_left _ (List.mem_append_right _ h))) 0 (by decide) (List.mem_of_getElem? (i := 1) rfl) rfl rfl dX0_setLine_45 ?_
    refine lv_aload_n hX0 hB0 dX0_setLine_48 rfl (lv_at hl 0 rfl) ?_
    refine z_get (Cn := RX0) (T := TX0) (N := 10) CX hW (v := .int (zI p)) ((va_up_ne _ _ (by omega)).trans hM.1) rfl (fun w h => List.mem_cons_of_mem _ (List.mem_append_left _ (List.mem_append_right _ h))) 9 (by decide) (List.mem_of_getElem? (i := 2) rfl) rfl rfl dX0_setLine_49 ?_
    refine z_callv hW (va_runV (C := RX2) (As := [.int (zI p)]) (rest := []) CX.fix (c_normalize l (f := va_up f (m + 2) (zA cI 25 (zlin3 (x % p) (y % p) (n % p)))) (m + 1) (m + 2) (zlin3 (x % p) (y % p) (n % p)) p ((va_up_ne _ _ (by omega)).trans hM.2.1.1) (va_up_self _ _ _) (by exact zcan_le hl3 (by omega)) (by omega)) (cwV 1 CX.fix.2.2.2.2 gX0_setLine_X2_normalize rfl rfl rfl (by decide +kernel) ⟨Nat.le_of_ble_eq_true rfl, Nat.le_of_ble_eq_true rfl⟩) (z_preV CX hW (r := (RX2, TX2, 1)) ((va_up_ne _ _ (by omega)).trans hM.2.1.1) rfl) rfl rfl hl.1 rfl (lv_room (Nat.le_of_ble_eq_true rfl)) dX0_setLine_52 ⟨Nat.zero_le _, Nat.zero_le _⟩) (fun gn H locs hok52 hW => ?_)
    have eg : gn = va_up f (m + 2) (zA cI 25 (znorm (zlin3 (x % p) (y % p) (n % p)) p)) := (hok52).trans va_up_up
    rw [eg] at hW
    clear eg
    refine lv_iconst (v := zI 1) hX0 hB0 dX0_setLine_55 rfl ?_
    rw [← hQ]
    exact z_iret (z := 1) CX hW (by exact ⟨by unfold zmlb; rw [if_neg (by omega)], by unfold zml; rw [if_neg (by omega)]⟩) rfl dX0_setLine_56
  ·
    refine lv_iconst (v := zI 0) hX0 hB0 dX0_setLine_42 rfl ?_
    rw [← hQ]
    exact z_iret (z := 0) CX hW (by exact ⟨by unfold zmlb; rw [if_pos (by omega)], by unfold zml; rw [if_pos (by omega)]⟩) rfl dX0_setLine_43
/-- the TANGENT's numbers -/
def ztan (d : Nat → Int) (x y z : Int) : Int × Int × Int := if z = 1 then (zat d 1 0, zat d 0 1, -zat d 1 0 * x - zat d 0 1 * y) else if x = 1 then (-zat d 1 0 * y, zat d 1 0, zat d 0 1) else (zat d 1 0, 0, zat d 0 1)
set_option maxRecDepth 100000 in
set_option maxHeartbeats 4000000 in
/-- Maker.lineTangent -/
theorem c_lineTangent (l : Launch) {D : va_G} {cI cJ cZ cP cS cM : ClassId} {L : List Nat} {sz : Nat} {f : Nat → va_E} (m : Nat) (p : Int) (md sc nx ny : Nat → Int) (x1 y1 z1 x2 y2 z2 : Int) (PX PY RS : Nat → Nat → Int) (h0 h : Nat) (d : Nat → Int) (s : Nat) (x y z q : Int) (hM : zMk cI cP f m p md sc nx ny x1 y1 z1 x2 y2 z2 PX PY RS) (hf0 : f h0 = .inr (2, [.ref h])) (hf1 : f h = zA cI 25 d) (hd : zcan 31 d) (hh0 : h0 < m ∨ m + 46 ≤ h0) (hh : h < m ∨ m + 46 ≤ h) (hs0 : f s = .inr (9, [.int (zI x), .int (zI y), .int (zI z)])) (hsd : s < m ∨ m + 46 ≤ s) (hx : 0 ≤ x ∧ x ≤ 31) (hy : 0 ≤ y ∧ y ≤ 31) (hz : 0 ≤ z ∧ z ≤ 1) (hp : 2 ≤ q ∧ q ≤ 31) : zMi l yX0_lineTangent wsX0_lineTangent 4 92 D (zT cI cJ cZ cP cS cM) L sz f [.ref m, .ref h0, .ref s, .int (zI q)] (fun r g => r = zmlb (ztan d x y z).1 (ztan d x y z).2.1 (ztan d x y z).2.2 q ∧ g = va_up (va_up f m (.inr (0, [.ref (m + 1), .ref (m + 3), .ref (m + 4), .ref (m + 5), .ref (m + 6), .ref (m + 8), .ref (m + 10), .ref (m + 12), .ref (m + 13), .int (zI q)]))) (m + 2) (zA cI 25 (zml (ztan d x y z).1 (ztan d x y z).2.1 (ztan d x y z).2.2 q))) := by
  refine zWalk.met (nL := 6) (ret := (some .boolean)) (cc := cX0_lineTangent) (by decide) rfl (Nat.le_of_ble_eq_true rfl) ?_
  intro pg en st mi ag bl mt cd ls CX hW hl
  have CX : zC pg st mi ag mt cd cX0_lineTangent 6 (some .boolean) RX0 wsX0_lineTangent := CX
  generalize hQ : MQ bl _ ag st 0 0 _ = Q
  have hX0 := CX.1
  have hB0 := CX.2.1
  have hl : lv_has ls 6 [(0, .ref m), (1, .ref h0), (2, .ref s), (3, .int (zI q))] := hl
  obtain ⟨H, eH⟩ : ∃ H, H = st.heap := ⟨_, rfl⟩
  obtain ⟨locs, eL⟩ : ∃ L : List Loc, L = [] := ⟨_, rfl⟩
  have hW : zW D (zT cI cJ cZ cP cS cM) L (zQ L sz) st f st.heap H locs := by rw [eH, eL]; exact hW
  suffices hgo : W pg l en ({ frames := 4, cells := 0, slots := 0, locals := 92 } : Room) st mi ag bl mt cd H locs 0 0 Q (F0 mi 0 ls []) by rw [eH, eL] at hgo; exact hgo
  clear eH eL
  have hu := zat_can (p := 31) (by omega) hd 1 0
  have hv := zat_can (p := 31) (by omega) hd 0 1
  have hux := zmul_abs (a := -zat d 1 0) (b := x) (A := 31) (B := 31) (by omega) (by omega)
  have hvy := zmul_rng (a := zat d 0 1) (b := y) (A := 31) (B := 31) (by omega) (by omega)
  have huy := zmul_abs (a := -zat d 1 0) (b := y) (A := 31) (B := 31) (by omega) (by omega)
  refine lv_aload_n hX0 hB0 dX0_lineTangent_0 rfl (lv_at hl 0 rfl) ?_
  refine lv_iload_n hX0 hB0 dX0_lineTangent_1 rfl (lv_at hl 3 rfl) ?_
  refine z_put (Cn := RX0) (T := TX0) (N := 10) CX hW (v := .int (zI q)) hM.1 rfl (fun w h => List.mem_cons_of_mem _ (List.mem_append_left _ (List.mem_append_left _ (List.mem_append_right _ h)))) tyX0 tyX0_ok nmX0 9 (by decide) (List.mem_of_getElem? (i := 1) rfl) rfl rfl rfl rfl (Nat.le_of_ble_eq_true rfl) (g := va_up f m (.inr (0, [.ref (m + 1), .ref (m + 3), .ref (m + 4), .ref (m + 5), .ref (m + 6), .ref (m + 8), .ref (m + 10), .ref (m + 12), .ref (m + 13), .int (zI q)]))) rfl dX0_lineTangent_2 (fun H locs hW => ?_)
  refine lv_aload_n hX0 hB0 dX0_lineTangent_5 rfl (lv_at hl 1 rfl) ?_
  refine lv_iconst (v := zI 1) hX0 hB0 dX0_lineTangent_6 rfl ?_
  refine lv_iconst (v := zI 0) hX0 hB0 dX0_lineTangent_7 rfl ?_
  refine z_calli hW (va_runV (C := RX2) (As := [.int (zI 1), .int (zI 0)]) (rest := []) CX.fix (c_at l (f := va_up f m (.inr (0, [.ref (m + 1), .ref (m + 3), .ref (m + 4), .ref (m + 5), .ref (m + 6), .ref (m + 8), .ref (m + 10), .ref (m + 12), .ref (m + 13), .int (zI q)]))) h0 h d 1 0 ((va_up_ne _ _ (by omega)).trans hf0) ((va_up_ne _ _ (by omega)).trans hf1) (by constructor <;> omega) (by constructor <;> omega)) (cwV 2 CX.fix.2.2.2.2 gX0_lineTangent_X2_at rfl rfl rfl (by decide +kernel) ⟨Nat.le_of_ble_eq_true rfl, Nat.le_of_ble_eq_true rfl⟩) (z_preV CX hW (r := (RX2, TX2, 1)) ((va_up_ne _ _ (by omega)).trans hf0) rfl) rfl rfl hl.1 rfl (lv_room (Nat.le_of_ble_eq_true rfl)) dX0_lineTangent_8 ⟨Nat.zero_le _, Nat.zero_le _⟩) (fun zv gn H locs hok8 hW => ?_)
  obtain ⟨ez, eg⟩ := hok8
  have eg : gn = va_up f m (.inr (0, [.ref (m + 1), .ref (m + 3), .ref (m + 4), .ref (m + 5), .ref (m + 6), .ref (m + 8), .ref (m + 10), .ref (m + 12), .ref (m + 13), .int (zI q)])) := eg
  rw [eg] at hW
  clear eg
  have ez : zv = zat d 1 0 := ez
  rw [ez]
  clear ez
  refine lv_istore (lv' := [(4, .int (zI (zat d 1 0))), (0, .ref m), (1, .ref h0), (2, .ref s), (3, .int (zI q))]) hX0 hB0 dX0_lineTangent_11 hl (by decide) rfl (fun ls hl => ?_)
  refine lv_aload_n hX0 hB0 dX0_lineTangent_13 rfl (lv_at hl 2 rfl) ?_
  refine lv_iconst (v := zI 0) hX0 hB0 dX0_lineTangent_14 rfl ?_
  refine lv_iconst (v := zI 1) hX0 hB0 dX0_lineTangent_15 rfl ?_
  refine z_calli hW (va_runV (C := RX2) (As := [.int (zI 0), .int (zI 1)]) (rest := []) CX.fix (c_at l (f := va_up f m (.inr (0, [.ref (m + 1), .ref (m + 3), .ref (m + 4), .ref (m + 5), .ref (m + 6), .ref (m + 8), .ref (m + 10), .ref (m + 12), .ref (m + 13), .int (zI q)]))) h0 h d 0 1 ((va_up_ne _ _ (by omega)).trans hf0) ((va_up_ne _ _ (by omega)).trans hf1) (by constructor <;> omega) (by constructor <;> omega)) (cwV 2 CX.fix.2.2.2.2 gX0_lineTangent_X2_at rfl rfl rfl (by decide +kernel) ⟨Nat.le_of_ble_eq_true rfl, Nat.le_of_ble_eq_true rfl⟩) (z_preV CX hW (r := (RX2, TX2, 1)) ((va_up_ne _ _ (by omega)).trans hf0) rfl) rfl rfl hl.1 rfl (lv_room (Nat.le_of_ble_eq_true rfl)) dX0_lineTangent_16 ⟨Nat.zero_le _, Nat.zero_le _⟩) (fun zv gn H locs hok16 hW => ?_)
  obtain ⟨ez, eg⟩ := hok16
  have eg : gn = va_up f m (.inr (0, [.ref (m + 1), .ref (m + 3), .ref (m + 4), .ref (m + 5), .ref (m + 6), .ref (m + 8), .ref (m + 10), .ref (m + 12), .ref (m + 13), .int (zI q)])) := eg
  rw [eg] at hW
  clear eg
  have ez : zv = zat d 0 1 := ez
  rw [ez]
  clear ez
  refine lv_istore (lv' := [(5, .int (zI (zat d 0 1))), (4, .int (zI (zat d 1 0))), (0, .ref m), (1, .ref h0), (2, .ref s), (3, .int (zI q))]) hX0 hB0 dX0_lineTangent_19 hl (by decide) rfl (fun ls hl => ?_)
  refine lv_aload_n hX0 hB0 dX0_lineTangent_21 rfl (lv_at hl 4 rfl) ?_
  refine z_get (Cn := RX9) (T := TX9) (N := 3) CX hW (v := .int (zI z)) ((va_up_ne _ _ (by omega)).trans hs0) rfl (fun w h => List.mem_cons_of_mem _ (List.mem_append_left _ (List.mem_append_right _ h))) 2 (by decide) (List.mem_of_getElem? (i := 2) rfl) rfl rfl dX0_lineTangent_22 ?_
  refine lv_iconst (v := zI 1) hX0 hB0 dX0_lineTangent_25 rfl ?_
  refine z_icmp_ne (tgt := 54) CX dX0_lineTangent_26 (by decide) (by constructor <;> omega) (by constructor <;> omega) (fun c_26 => ?_) (fun c_26 => ?_)
  ·
    refine lv_aload_n hX0 hB0 dX0_lineTangent_54 rfl (lv_at hl 4 rfl) ?_
    refine z_get (Cn := RX9) (T := TX9) (N := 3) CX hW (v := .int (zI x)) ((va_up_ne _ _ (by omega)).trans hs0) rfl (fun w h => List.mem_cons_of_mem _ (List.mem_append_left _ (List.mem_append_right _ h))) 0 (by decide) (List.mem_of_getElem? (i := 3) rfl) rfl rfl dX0_lineTangent_55 ?_
    refine lv_iconst (v := zI 1) hX0 hB0 dX0_lineTangent_58 rfl ?_
    refine z_icmp_ne (tgt := 79) CX dX0_lineTangent_59 (by decide) (by constructor <;> omega) (by constructor <;> omega) (fun c_59 => ?_) (fun c_59 => ?_)
    ·
      refine lv_aload_n hX0 hB0 dX0_lineTangent_79 rfl (lv_at hl 2 rfl) ?_
      refine lv_iload hX0 hB0 dX0_lineTangent_80 (lv_at hl 1 rfl) ?_
      refine lv_iconst (v := zI 0) hX0 hB0 dX0_lineTangent_82 rfl ?_
      refine lv_iload hX0 hB0 dX0_lineTangent_83 (lv_at hl 0 rfl) ?_
      refine z_calli hW (va_runV (C := RX0) (As := [.int (zI (zat d 1 0)), .int (zI 0), .int (zI (zat d 0 1))]) (rest := []) CX.fix (c_setLine0 l (f := va_up f m (.inr (0, [.ref (m + 1), .ref (m + 3), .ref (m + 4), .ref (m + 5), .ref (m + 6), .ref (m + 8), .ref (m + 10), .ref (m + 12), .ref (m + 13), .int (zI q)]))) m q md sc nx ny x1 y1 z1 x2 y2 z2 PX PY RS (zat d 1 0) 0 (zat d 0 1) ⟨(va_up_self _ _ _), ⟨((va_up_ne _ _ (by omega)).trans hM.2.1.1), ((va_up_ne _ _ (by omega)).trans hM.2.1.2)⟩, ⟨((va_up_ne _ _ (by omega)).trans hM.2.2.1.1), ((va_up_ne _ _ (by omega)).trans hM.2.2.1.2)⟩, ⟨((va_up_ne _ _ (by omega)).trans hM.2.2.2.1.1), ((va_up_ne _ _ (by omega)).trans hM.2.2.2.1.2)⟩, ⟨((va_up_ne _ _ (by omega)).trans hM.2.2.2.2.1.1), ((va_up_ne _ _ (by omega)).trans hM.2.2.2.2.1.2)⟩, ((va_up_ne _ _ (by omega)).trans hM.2.2.2.2.2.1), ((va_up_ne _ _ (by omega)).trans hM.2.2.2.2.2.2.1), ((va_up_ne _ _ (by omega)).trans hM.2.2.2.2.2.2.2.1), ((va_up_ne _ _ (by omega)).trans hM.2.2.2.2.2.2.2.2.1), ((va_up_ne _ _ (by omega)).trans hM.2.2.2.2.2.2.2.2.2.1), fun k hk => (hM.2.2.2.2.2.2.2.2.2.2.1 k hk).same ((va_up_ne _ _ (by omega)).trans rfl) ((va_up_ne _ _ (by omega)).trans rfl), fun k hk => (hM.2.2.2.2.2.2.2.2.2.2.2.1 k hk).same ((va_up_ne _ _ (by omega)).trans rfl) ((va_up_ne _ _ (by omega)).trans rfl), fun k hk => (hM.2.2.2.2.2.2.2.2.2.2.2.2 k hk).same ((va_up_ne _ _ (by omega)).trans rfl) ((va_up_ne _ _ (by omega)).trans rfl)⟩ (by omega) (by constructor <;> omega) (by constructor <;> omega) (by constructor <;> omega)) (cwV 3 CX.fix.2.2.2.2 gX0_lineTangent_X0_setLine rfl rfl rfl (by decide +kernel) ⟨Nat.le_of_ble_eq_true rfl, Nat.le_of_ble_eq_true rfl⟩) (z_preV CX hW (r := (RX0, TX0, 10)) (va_up_self _ _ _) rfl) rfl rfl hl.1 rfl (lv_room (Nat.le_of_ble_eq_true rfl)) dX0_lineTangent_85 ⟨Nat.zero_le _, Nat.zero_le _⟩) (fun zv gn H locs hok85 hW => ?_)
      obtain ⟨ez, eg⟩ := hok85
      have eg : gn = va_up (va_up f m (.inr (0, [.ref (m + 1), .ref (m + 3), .ref (m + 4), .ref (m + 5), .ref (m + 6), .ref (m + 8), .ref (m + 10), .ref (m + 12), .ref (m + 13), .int (zI q)]))) (m + 2) (zA cI 25 (zml (zat d 1 0) 0 (zat d 0 1) q)) := eg
      rw [eg] at hW
      clear eg
      have ez : zv = zmlb (zat d 1 0) 0 (zat d 0 1) q := ez
      rw [ez]
      clear ez
      have hml85 : zmlb (zat d 1 0) 0 (zat d 0 1) q = 0 ∨ zmlb (zat d 1 0) 0 (zat d 0 1) q = 1 := by unfold zmlb; split <;> omega
      rw [← hQ]
      exact z_iret (z := zmlb (zat d 1 0) 0 (zat d 0 1) q) CX hW (by exact ⟨by unfold ztan; rw [if_neg c_26, if_neg c_59], by unfold ztan; rw [if_neg c_26, if_neg c_59]⟩) (zI_bool hml85) dX0_lineTangent_88
    ·
      refine lv_aload_n hX0 hB0 dX0_lineTangent_62 rfl (lv_at hl 2 rfl) ?_
      refine lv_iload hX0 hB0 dX0_lineTangent_63 (lv_at hl 1 rfl) ?_
      refine z_ineg (z := -(zat d 1 0)) CX dX0_lineTangent_65 rfl ?_
      refine lv_aload_n hX0 hB0 dX0_lineTangent_66 rfl (lv_at hl 4 rfl) ?_
      refine z_get (Cn := RX9) (T := TX9) (N := 3) CX hW (v := .int (zI y)) ((va_up_ne _ _ (by omega)).trans hs0) rfl (fun w h => List.mem_cons_of_mem _ (List.mem_append_left _ (List.mem_append_right _ h))) 1 (by decide) (List.mem_of_getElem? (i := 4) rfl) rfl rfl dX0_lineTangent_67 ?_
      refine z_imul (z := (-(zat d 1 0)) * y) CX dX0_lineTangent_70 rfl ?_
      refine lv_iload hX0 hB0 dX0_lineTangent_71 (lv_at hl 1 rfl) ?_
      refine lv_iload hX0 hB0 dX0_lineTangent_73 (lv_at hl 0 rfl) ?_
      refine z_calli hW (va_runV (C := RX0) (As := [.int (zI ((-(zat d 1 0)) * y)), .int (zI (zat d 1 0)), .int (zI (zat d 0 1))]) (rest := []) CX.fix (c_setLine0 l (f := va_up f m (.inr (0, [.ref (m + 1), .ref (m + 3), .ref (m + 4), .ref (m + 5), .ref (m + 6), .ref (m + 8), .ref (m + 10), .ref (m + 12), .ref (m + 13), .int (zI q)]))) m q md sc nx ny x1 y1 z1 x2 y2 z2 PX PY RS ((-(zat d 1 0)) * y) (zat d 1 0) (zat d 0 1) ⟨(va_up_self _ _ _), ⟨((va_up_ne _ _ (by omega)).trans hM.2.1.1), ((va_up_ne _ _ (by omega)).trans hM.2.1.2)⟩, ⟨((va_up_ne _ _ (by omega)).trans hM.2.2.1.1), ((va_up_ne _ _ (by omega)).trans hM.2.2.1.2)⟩, ⟨((va_up_ne _ _ (by omega)).trans hM.2.2.2.1.1), ((va_up_ne _ _ (by omega)).trans hM.2.2.2.1.2)⟩, ⟨((va_up_ne _ _ (by omega)).trans hM.2.2.2.2.1.1), ((va_up_ne _ _ (by omega)).trans hM.2.2.2.2.1.2)⟩, ((va_up_ne _ _ (by omega)).trans hM.2.2.2.2.2.1), ((va_up_ne _ _ (by omega)).trans hM.2.2.2.2.2.2.1), ((va_up_ne _ _ (by omega)).trans hM.2.2.2.2.2.2.2.1), ((va_up_ne _ _ (by omega)).trans hM.2.2.2.2.2.2.2.2.1), ((va_up_ne _ _ (by omega)).trans hM.2.2.2.2.2.2.2.2.2.1), fun k hk => (hM.2.2.2.2.2.2.2.2.2.2.1 k hk).same ((va_up_ne _ _ (by omega)).trans rfl) ((va_up_ne _ _ (by omega)).trans rfl), fun k hk => (hM.2.2.2.2.2.2.2.2.2.2.2.1 k hk).same ((va_up_ne _ _ (by omega)).trans rfl) ((va_up_ne _ _ (by omega)).trans rfl), fun k hk => (hM.2.2.2.2.2.2.2.2.2.2.2.2 k hk).same ((va_up_ne _ _ (by omega)).trans rfl) ((va_up_ne _ _ (by omega)).trans rfl)⟩ (by omega) (by constructor <;> omega) (by constructor <;> omega) (by constructor <;> omega)) (cwV 3 CX.fix.2.2.2.2 gX0_lineTangent_X0_setLine rfl rfl rfl (by decide +kernel) ⟨Nat.le_of_ble_eq_true rfl, Nat.le_of_ble_eq_true rfl⟩) (z_preV CX hW (r := (RX0, TX0, 10)) (va_up_self _ _ _) rfl) rfl rfl hl.1 rfl (lv_room (Nat.le_of_ble_eq_true rfl)) dX0_lineTangent_75 ⟨Nat.zero_le _, Nat.zero_le _⟩) (fun zv gn H locs hok75 hW => ?_)
      obtain ⟨ez, eg⟩ := hok75
      have eg : gn = va_up (va_up f m (.inr (0, [.ref (m + 1), .ref (m + 3), .ref (m + 4), .ref (m + 5), .ref (m + 6), .ref (m + 8), .ref (m + 10), .ref (m + 12), .ref (m + 13), .int (zI q)]))) (m + 2) (zA cI 25 (zml ((-(zat d 1 0)) * y) (zat d 1 0) (zat d 0 1) q)) := eg
      rw [eg] at hW
      clear eg
      have ez : zv = zmlb ((-(zat d 1 0)) * y) (zat d 1 0) (zat d 0 1) q := ez
      rw [ez]
      clear ez
      have hml75 : zmlb ((-(zat d 1 0)) * y) (zat d 1 0) (zat d 0 1) q = 0 ∨ zmlb ((-(zat d 1 0)) * y) (zat d 1 0) (zat d 0 1) q = 1 := by unfold zmlb; split <;> omega
      rw [← hQ]
      exact z_iret (z := zmlb ((-(zat d 1 0)) * y) (zat d 1 0) (zat d 0 1) q) CX hW (by exact ⟨by unfold ztan; rw [if_neg c_26, if_pos c_59], by unfold ztan; rw [if_neg c_26, if_pos c_59]⟩) (zI_bool hml75) dX0_lineTangent_78
  ·
    refine lv_aload_n hX0 hB0 dX0_lineTangent_29 rfl (lv_at hl 2 rfl) ?_
    refine lv_iload hX0 hB0 dX0_lineTangent_30 (lv_at hl 1 rfl) ?_
    refine lv_iload hX0 hB0 dX0_lineTangent_32 (lv_at hl 0 rfl) ?_
    refine lv_iload hX0 hB0 dX0_lineTangent_34 (lv_at hl 1 rfl) ?_
    refine z_ineg (z := -(zat d 1 0)) CX dX0_lineTangent_36 rfl ?_
    refine lv_aload_n hX0 hB0 dX0_lineTangent_37 rfl (lv_at hl 4 rfl) ?_
    refine z_get (Cn := RX9) (T := TX9) (N := 3) CX hW (v := .int (zI x)) ((va_up_ne _ _ (by omega)).trans hs0) rfl (fun w h => List.mem_cons_of_mem _ (List.mem_append_left _ (List.mem_append_right _ h))) 0 (by decide) (List.mem_of_getElem? (i := 3) rfl) rfl rfl dX0_lineTangent_38 ?_
    refine z_imul (z := (-(zat d 1 0)) * x) CX dX0_lineTangent_41 rfl ?_
    refine lv_iload hX0 hB0 dX0_lineTangent_42 (lv_at hl 0 rfl) ?_
    refine lv_aload_n hX0 hB0 dX0_lineTangent_44 rfl (lv_at hl 4 rfl) ?_
    refine z_get (Cn := RX9) (T := TX9) (N := 3) CX hW (v := .int (zI y)) ((va_up_ne _ _ (by omega)).trans hs0) rfl (fun w h => List.mem_cons_of_mem _ (List.mem_append_left _ (List.mem_append_right _ h))) 1 (by decide) (List.mem_of_getElem? (i := 4) rfl) rfl rfl dX0_lineTangent_45 ?_
    refine z_imul (z := (zat d 0 1) * y) CX dX0_lineTangent_48 rfl ?_
    refine z_isub (z := ((-(zat d 1 0)) * x) - ((zat d 0 1) * y)) CX dX0_lineTangent_49 rfl ?_
    refine z_calli hW (va_runV (C := RX0) (As := [.int (zI (zat d 1 0)), .int (zI (zat d 0 1)), .int (zI (((-(zat d 1 0)) * x) - ((zat d 0 1) * y)))]) (rest := []) CX.fix (c_setLine0 l (f := va_up f m (.inr (0, [.ref (m + 1), .ref (m + 3), .ref (m + 4), .ref (m + 5), .ref (m + 6), .ref (m + 8), .ref (m + 10), .ref (m + 12), .ref (m + 13), .int (zI q)]))) m q md sc nx ny x1 y1 z1 x2 y2 z2 PX PY RS (zat d 1 0) (zat d 0 1) (((-(zat d 1 0)) * x) - ((zat d 0 1) * y)) ⟨(va_up_self _ _ _), ⟨((va_up_ne _ _ (by omega)).trans hM.2.1.1), ((va_up_ne _ _ (by omega)).trans hM.2.1.2)⟩, ⟨((va_up_ne _ _ (by omega)).trans hM.2.2.1.1), ((va_up_ne _ _ (by omega)).trans hM.2.2.1.2)⟩, ⟨((va_up_ne _ _ (by omega)).trans hM.2.2.2.1.1), ((va_up_ne _ _ (by omega)).trans hM.2.2.2.1.2)⟩, ⟨((va_up_ne _ _ (by omega)).trans hM.2.2.2.2.1.1), ((va_up_ne _ _ (by omega)).trans hM.2.2.2.2.1.2)⟩, ((va_up_ne _ _ (by omega)).trans hM.2.2.2.2.2.1), ((va_up_ne _ _ (by omega)).trans hM.2.2.2.2.2.2.1), ((va_up_ne _ _ (by omega)).trans hM.2.2.2.2.2.2.2.1), ((va_up_ne _ _ (by omega)).trans hM.2.2.2.2.2.2.2.2.1), ((va_up_ne _ _ (by omega)).trans hM.2.2.2.2.2.2.2.2.2.1), fun k hk => (hM.2.2.2.2.2.2.2.2.2.2.1 k hk).same ((va_up_ne _ _ (by omega)).trans rfl) ((va_up_ne _ _ (by omega)).trans rfl), fun k hk => (hM.2.2.2.2.2.2.2.2.2.2.2.1 k hk).same ((va_up_ne _ _ (by omega)).trans rfl) ((va_up_ne _ _ (by omega)).trans rfl), fun k hk => (hM.2.2.2.2.2.2.2.2.2.2.2.2 k hk).same ((va_up_ne _ _ (by omega)).trans rfl) ((va_up_ne _ _ (by omega)).trans rfl)⟩ (by omega) (by constructor <;> omega) (by constructor <;> omega) (by constructor <;> omega)) (cwV 3 CX.fix.2.2.2.2 gX0_lineTangent_X0_setLine rfl rfl rfl (by decide +kernel) ⟨Nat.le_of_ble_eq_true rfl, Nat.le_of_ble_eq_true rfl⟩) (z_preV CX hW (r := (RX0, TX0, 10)) (va_up_self _ _ _) rfl) rfl rfl hl.1 rfl (lv_room (Nat.le_of_ble_eq_true rfl)) dX0_lineTangent_50 ⟨Nat.zero_le _, Nat.zero_le _⟩) (fun zv gn H locs hok50 hW => ?_)
    obtain ⟨ez, eg⟩ := hok50
    have eg : gn = va_up (va_up f m (.inr (0, [.ref (m + 1), .ref (m + 3), .ref (m + 4), .ref (m + 5), .ref (m + 6), .ref (m + 8), .ref (m + 10), .ref (m + 12), .ref (m + 13), .int (zI q)]))) (m + 2) (zA cI 25 (zml (zat d 1 0) (zat d 0 1) (((-(zat d 1 0)) * x) - ((zat d 0 1) * y)) q)) := eg
    rw [eg] at hW
    clear eg
    have ez : zv = zmlb (zat d 1 0) (zat d 0 1) (((-(zat d 1 0)) * x) - ((zat d 0 1) * y)) q := ez
    rw [ez]
    clear ez
    have hml50 : zmlb (zat d 1 0) (zat d 0 1) (((-(zat d 1 0)) * x) - ((zat d 0 1) * y)) q = 0 ∨ zmlb (zat d 1 0) (zat d 0 1) (((-(zat d 1 0)) * x) - ((zat d 0 1) * y)) q = 1 := by unfold zmlb; split <;> omega
    rw [← hQ]
    exact z_iret (z := zmlb (zat d 1 0) (zat d 0 1) (((-(zat d 1 0)) * x) - ((zat d 0 1) * y)) q) CX hW (by exact ⟨by unfold ztan; rw [if_pos c_26], by unfold ztan; rw [if_pos c_26]⟩) (zI_bool hml50) dX0_lineTangent_53
set_option maxRecDepth 100000 in
set_option maxHeartbeats 4000000 in
/-- Maker.derive -/
theorem c_derive (l : Launch) {D : va_G} {cI cJ cZ cP cS cM : ClassId} {L : List Nat} {sz : Nat} {f : Nat → va_E} (m : Nat) (p : Int) (md sc nx ny : Nat → Int) (x1 y1 z1 x2 y2 z2 : Int) (PX PY RS : Nat → Nat → Int) (h0 h : Nat) (d : Nat → Int) (bx q : Int) (hM : zMk cI cP f m p md sc nx ny x1 y1 z1 x2 y2 z2 PX PY RS) (hf0 : f h0 = .inr (2, [.ref h])) (hf1 : f h = zA cI 25 d) (hd : zcan 31 d) (hh0 : h0 < m ∨ m + 46 ≤ h0) (hh : h < m ∨ m + 46 ≤ h) (hb : 0 ≤ bx ∧ bx ≤ 1) (hp : 2 ≤ q ∧ q ≤ 31) : zMv l yX0_derive wsX0_derive 2 44 D (zT cI cJ cZ cP cS cM) L sz f [.ref m, .ref h0, .int (zI bx), .int (zI q)] (fun g => g = va_up (va_up f m (.inr (0, [.ref (m + 1), .ref (m + 3), .ref (m + 4), .ref (m + 5), .ref (m + 6), .ref (m + 8), .ref (m + 10), .ref (m + 12), .ref (m + 13), .int (zI q)]))) (m + 2) (zA cI 25 (zder d bx q))) := by
  refine zWalk.met (nL := 7) (ret := none) (cc := cX0_derive) (by decide) rfl (Nat.le_of_ble_eq_true rfl) ?_
  intro pg en st mi ag bl mt cd ls CX hW hl
  have CX : zC pg st mi ag mt cd cX0_derive 7 none RX0 wsX0_derive := CX
  generalize hQ : MQ bl _ ag st 0 0 _ = Q
  have hX0 := CX.1
  have hB0 := CX.2.1
  have hl : lv_has ls 7 [(0, .ref m), (1, .ref h0), (2, .int (zI bx)), (3, .int (zI q))] := hl
  obtain ⟨H, eH⟩ : ∃ H, H = st.heap := ⟨_, rfl⟩
  obtain ⟨locs, eL⟩ : ∃ L : List Loc, L = [] := ⟨_, rfl⟩
  have hW : zW D (zT cI cJ cZ cP cS cM) L (zQ L sz) st f st.heap H locs := by rw [eH, eL]; exact hW
  suffices hgo : W pg l en ({ frames := 2, cells := 0, slots := 0, locals := 44 } : Room) st mi ag bl mt cd H locs 0 0 Q (F0 mi 0 ls []) by rw [eH, eL] at hgo; exact hgo
  clear eH eL
  refine lv_aload_n hX0 hB0 dX0_derive_0 rfl (lv_at hl 0 rfl) ?_
  refine lv_iload_n hX0 hB0 dX0_derive_1 rfl (lv_at hl 3 rfl) ?_
  refine z_put (Cn := RX0) (T := TX0) (N := 10) CX hW (v := .int (zI q)) hM.1 rfl (fun w h => List.mem_cons_of_mem _ (List.mem_append_left _ (List.mem_append_right _ h))) tyX0 tyX0_ok nmX0 9 (by decide) (List.mem_of_getElem? (i := 1) rfl) rfl rfl rfl rfl (Nat.le_of_ble_eq_true rfl) (g := va_up f m (.inr (0, [.ref (m + 1), .ref (m + 3), .ref (m + 4), .ref (m + 5), .ref (m + 6), .ref (m + 8), .ref (m + 10), .ref (m + 12), .ref (m + 13), .int (zI q)]))) rfl dX0_derive_2 (fun H locs hW => ?_)
  refine lv_aload_n hX0 hB0 dX0_derive_5 rfl (lv_at hl 0 rfl) ?_
  refine z_get (Cn := RX0) (T := TX0) (N := 10) CX hW (v := .ref (m + 1)) (va_up_self _ _ _) rfl (fun w h => List.mem_cons_of_mem _ (List.mem_append_left _ (List.mem_append_right _ h))) 0 (by decide) (List.mem_of_getElem? (i := 2) rfl) rfl rfl dX0_derive_6 ?_
  refine lv_iconst (v := zI 0) hX0 hB0 dX0_derive_9 rfl ?_
  refine z_callv hW (va_runV (C := RX2) (As := [.int (zI 0)]) (rest := []) CX.fix (c_setTo l (f := va_up f m (.inr (0, [.ref (m + 1), .ref (m + 3), .ref (m + 4), .ref (m + 5), .ref (m + 6), .ref (m + 8), .ref (m + 10), .ref (m + 12), .ref (m + 13), .int (zI q)]))) (m + 1) (m + 2) md 0 ((va_up_ne _ _ (by omega)).trans hM.2.1.1) ((va_up_ne _ _ (by omega)).trans hM.2.1.2)) (cwV 1 CX.fix.2.2.2.2 gX0_derive_X2_setTo rfl rfl rfl (by decide +kernel) ⟨Nat.le_of_ble_eq_true rfl, Nat.le_of_ble_eq_true rfl⟩) (z_preV CX hW (r := (RX2, TX2, 1)) ((va_up_ne _ _ (by omega)).trans hM.2.1.1) rfl) rfl rfl hl.1 rfl (lv_room (Nat.le_of_ble_eq_true rfl)) dX0_derive_10 ⟨Nat.zero_le _, Nat.zero_le _⟩) (fun gn H locs hok10 hW => ?_)
  have eg : gn = va_up (va_up f m (.inr (0, [.ref (m + 1), .ref (m + 3), .ref (m + 4), .ref (m + 5), .ref (m + 6), .ref (m + 8), .ref (m + 10), .ref (m + 12), .ref (m + 13), .int (zI q)]))) (m + 2) (zA cI 25 (zone 0)) := hok10
  rw [eg] at hW
  clear eg
  refine lv_iconst (v := zI 0) hX0 hB0 dX0_derive_13 rfl ?_
  refine lv_istore (lv' := [(4, .int (zI 0)), (0, .ref m), (1, .ref h0), (2, .int (zI bx)), (3, .int (zI q))]) hX0 hB0 dX0_derive_14 hl (by decide) rfl (fun ls hl => ?_)
  have hL16 : ∀ (fu : Nat) (i : Int) (co : Nat → Int), (0 ≤ i ∧ (i ≤ 5 ∨ i = 0) ∧ co = zfor (zder_out d bx q) 0 (zone 0) (i - 0).toNat ∧ True) → (5 - i).toNat < fu → ∀ (H : Heap) (locs : List Loc) (ls : Array Slot), zW D (zT cI cJ cZ cP cS cM) L (zQ L sz) st (va_up (va_up f m (.inr (0, [.ref (m + 1), .ref (m + 3), .ref (m + 4), .ref (m + 5), .ref (m + 6), .ref (m + 8), .ref (m + 10), .ref (m + 12), .ref (m + 13), .int (zI q)]))) (m + 2) (zA cI 25 co)) st.heap H locs → lv_has ls 7 [(4, .int (zI i)), (0, .ref m), (1, .ref h0), (2, .int (zI bx)), (3, .int (zI q))] → W pg l en ({ frames := 2, cells := 0, slots := 0, locals := 44 } : Room) st mi ag bl mt cd H locs 0 0 Q (F0 mi 16 ls []) := by
    intro fu
    induction fu with
    | zero => intro i co _ hfu; exact absurd hfu (Nat.not_lt_zero _)
    | succ fu ih16 =>
      intro i co hinv16 hfu16 H locs ls hW hl
      obtain ⟨hi0, hi1, heco, -⟩ := hinv16
      refine lv_iload hX0 hB0 dX0_derive_16 (lv_at hl 0 rfl) ?_
      refine lv_iconst (v := zI 4) hX0 hB0 dX0_derive_18 rfl ?_
      refine z_icmp_gt (tgt := 115) CX dX0_derive_19 (by decide) (by constructor <;> omega) (by constructor <;> omega) (fun c_19 => ?_) (fun c_19 => ?_)
      ·
        rw [← hQ]
        exact z_vret CX hW (by rw [heco, show (i - 0).toNat = (5 - 0 : Int).toNat by omega]; rfl) dX0_derive_115
      ·
        refine lv_iconst (v := zI 0) hX0 hB0 dX0_derive_22 rfl ?_
        refine lv_istore (lv' := [(5, .int (zI 0)), (4, .int (zI i)), (0, .ref m), (1, .ref h0), (2, .int (zI bx)), (3, .int (zI q))]) hX0 hB0 dX0_derive_23 hl (by decide) rfl (fun ls hl => ?_)
        have hL25 : ∀ (fu : Nat) (j : Int) (ce : Nat → Int), (0 ≤ j ∧ (j ≤ 4 - i + 1 ∨ j = 0) ∧ ce = zfor (zder_in d bx q i) 0 co (j - 0).toNat ∧ True) → (4 - i + 1 - j).toNat < fu → ∀ (H : Heap) (locs : List Loc) (ls : Array Slot), zW D (zT cI cJ cZ cP cS cM) L (zQ L sz) st (va_up (va_up f m (.inr (0, [.ref (m + 1), .ref (m + 3), .ref (m + 4), .ref (m + 5), .ref (m + 6), .ref (m + 8), .ref (m + 10), .ref (m + 12), .ref (m + 13), .int (zI q)]))) (m + 2) (zA cI 25 ce)) st.heap H locs → lv_has ls 7 [(5, .int (zI j)), (4, .int (zI i)), (0, .ref m), (1, .ref h0), (2, .int (zI bx)), (3, .int (zI q))] → W pg l en ({ frames := 2, cells := 0, slots := 0, locals := 44 } : Room) st mi ag bl mt cd H locs 0 0 Q (F0 mi 25 ls []) := by
          intro fu
          induction fu with
          | zero => intro j ce _ hfu; exact absurd hfu (Nat.not_lt_zero _)
          | succ fu ih25 =>
            intro j ce hinv25 hfu25 H locs ls hW hl
            obtain ⟨hj0, hj1, hece, -⟩ := hinv25
            refine lv_iload hX0 hB0 dX0_derive_25 (lv_at hl 0 rfl) ?_
            refine lv_iconst (v := zI 4) hX0 hB0 dX0_derive_27 rfl ?_
            refine lv_iload hX0 hB0 dX0_derive_28 (lv_at hl 1 rfl) ?_
            refine z_isub (z := 4 - i) CX dX0_derive_30 rfl ?_
            refine z_icmp_gt (tgt := 109) CX dX0_derive_31 (by decide) (by constructor <;> omega) (by constructor <;> omega) (fun c_31 => ?_) (fun c_31 => ?_)
            ·
              refine lv_iinc (v := zI (i + 1)) (lv' := [(4, .int (zI (i + 1))), (5, .int (zI j)), (0, .ref m), (1, .ref h0), (2, .int (zI bx)), (3, .int (zI q))]) hX0 hB0 dX0_derive_109 hl (k := 1) rfl (zI_add _ _) (by decide) rfl (fun ls hl => ?_)
              refine lv_goto (tgt := 16) hX0 hB0 dX0_derive_112 (by decide) ?_
              exact ih16 (i + 1) ce ⟨by omega, by omega, by rw [zfor_s _ _ _ hi0, ← heco]; rw [hece]; show zfor _ 0 co _ = zfor _ 0 co _; congr 1; omega, trivial⟩ (by omega) H locs ls hW (lv_sub hl [0, 2, 3, 4, 5] rfl)
            ·
              refine lv_aload_n hX0 hB0 dX0_derive_34 rfl (lv_at hl 3 rfl) ?_
              refine lv_iload hX0 hB0 dX0_derive_35 (lv_at hl 1 rfl) ?_
              refine lv_iload hX0 hB0 dX0_derive_37 (lv_at hl 0 rfl) ?_
              refine z_calli hW (va_runV (C := RX2) (As := [.int (zI i), .int (zI j)]) (rest := []) CX.fix (c_at l (f := va_up (va_up f m (.inr (0, [.ref (m + 1), .ref (m + 3), .ref (m + 4), .ref (m + 5), .ref (m + 6), .ref (m + 8), .ref (m + 10), .ref (m + 12), .ref (m + 13), .int (zI q)]))) (m + 2) (zA cI 25 ce)) h0 h d i j ((va_up_ne _ _ (by omega)).trans ((va_up_ne _ _ (by omega)).trans hf0)) ((va_up_ne _ _ (by omega)).trans ((va_up_ne _ _ (by omega)).trans hf1)) (by constructor <;> omega) (by constructor <;> omega)) (cwV 2 CX.fix.2.2.2.2 gX0_derive_X2_at rfl rfl rfl (by decide +kernel) ⟨Nat.le_of_ble_eq_true rfl, Nat.le_of_ble_eq_true rfl⟩) (z_preV CX hW (r := (RX2, TX2, 1)) ((va_up_ne _ _ (by omega)).trans ((va_up_ne _ _ (by omega)).trans hf0)) rfl) rfl rfl hl.1 rfl (lv_room (Nat.le_of_ble_eq_true rfl)) dX0_derive_39 ⟨Nat.zero_le _, Nat.zero_le _⟩) (fun zv gn H locs hok39 hW => ?_)
              obtain ⟨ez, eg⟩ := hok39
              have eg : gn = va_up (va_up f m (.inr (0, [.ref (m + 1), .ref (m + 3), .ref (m + 4), .ref (m + 5), .ref (m + 6), .ref (m + 8), .ref (m + 10), .ref (m + 12), .ref (m + 13), .int (zI q)]))) (m + 2) (zA cI 25 ce) := eg
              rw [eg] at hW
              clear eg
              have ez : zv = zat d i j := ez
              rw [ez]
              clear ez
              have hat := zat_can (p := 31) (by omega) hd i j
              have hJ53 : ∀ (k : Int), (k = (if bx = 0 then j else i) ∧ 0 ≤ k ∧ k ≤ 4) → ∀ (H : Heap) (locs : List Loc) (ls : Array Slot), zW D (zT cI cJ cZ cP cS cM) L (zQ L sz) st (va_up (va_up f m (.inr (0, [.ref (m + 1), .ref (m + 3), .ref (m + 4), .ref (m + 5), .ref (m + 6), .ref (m + 8), .ref (m + 10), .ref (m + 12), .ref (m + 13), .int (zI q)]))) (m + 2) (zA cI 25 ce)) st.heap H locs → lv_has ls 7 [(5, .int (zI j)), (4, .int (zI i)), (0, .ref m), (1, .ref h0), (2, .int (zI bx)), (3, .int (zI q))] → W pg l en ({ frames := 2, cells := 0, slots := 0, locals := 44 } : Room) st mi ag bl mt cd H locs 0 0 Q (F0 mi 53 ls [.int (zI k), .int (zI (zat d i j))]) := by
                intro k hinv53 H locs ls hW hl
                obtain ⟨hk, hk0, hk1⟩ := hinv53
                have hkm := zmul_rng (a := zat d i j) (b := k) (A := 31) (B := 4) (by omega) (by omega)
                refine z_imul (z := (zat d i j) * k) CX dX0_derive_53 rfl ?_
                refine lv_aload_n hX0 hB0 dX0_derive_54 rfl (lv_at hl 2 rfl) ?_
                refine z_get (Cn := RX0) (T := TX0) (N := 10) CX hW (v := .int (zI q)) ((va_up_ne _ _ (by omega)).trans (va_up_self _ _ _)) rfl (fun w h => List.mem_cons_of_mem _ (List.mem_append_left _ (List.mem_append_right _ h))) 9 (by decide) (List.mem_of_getElem? (i := 1) rfl) rfl rfl dX0_derive_55 ?_
                refine z_calli hW (va_runSN (As := [.int (zI ((zat d i j) * k)), .int (zI q)]) (rest := []) CX.fix (c_mod l (f := va_up (va_up f m (.inr (0, [.ref (m + 1), .ref (m + 3), .ref (m + 4), .ref (m + 5), .ref (m + 6), .ref (m + 8), .ref (m + 10), .ref (m + 12), .ref (m + 13), .int (zI q)]))) (m + 2) (zA cI 25 ce)) ((zat d i j) * k) q (by constructor <;> omega) (by constructor <;> omega)) ⟨va_cnB (own := RX0) (host := "CurveMeets") (index := 51) 2 CX.fix.2.2.2.2 ggX0_derive_X11_mod rfl rfl rfl (CX.2.2.2.2.2.2.2.1 _ (by decide +kernel)) (CX.at (List.mem_of_getElem? (i := 17) rfl)) (by decide +kernel) ⟨Nat.le_of_ble_eq_true rfl, Nat.le_of_ble_eq_true rfl⟩, CX.at (List.mem_of_getElem? (i := 16) rfl), trivial⟩ (z_preS CX hW) rfl rfl hl.1 rfl (lv_room (Nat.le_of_ble_eq_true rfl)) dX0_derive_58 ⟨Nat.zero_le _, Nat.zero_le _⟩) (fun zv gn H locs hok58 hW => ?_)
                obtain ⟨ez, eg⟩ := hok58
                have eg : gn = va_up (va_up f m (.inr (0, [.ref (m + 1), .ref (m + 3), .ref (m + 4), .ref (m + 5), .ref (m + 6), .ref (m + 8), .ref (m + 10), .ref (m + 12), .ref (m + 13), .int (zI q)]))) (m + 2) (zA cI 25 ce) := eg
                rw [eg] at hW
                clear eg
                have ez : zv = ((zat d i j) * k) % q := ez
                rw [ez]
                clear ez
                have hm58 := zmr ((zat d i j) * k) (p := q) (by omega)
                refine lv_istore (lv' := [(6, .int (zI (((zat d i j) * k) % q))), (5, .int (zI j)), (4, .int (zI i)), (0, .ref m), (1, .ref h0), (2, .int (zI bx)), (3, .int (zI q))]) hX0 hB0 dX0_derive_61 hl (by decide) rfl (fun ls hl => ?_)
                refine lv_iload hX0 hB0 dX0_derive_63 (lv_at hl 0 rfl) ?_
                refine z_if_eq (tgt := 103) CX dX0_derive_65 (by decide) (by constructor <;> omega) (fun c_65 => ?_) (fun c_65 => ?_)
                ·
                  have hw0 : zat d i j * (if bx = 0 then j else i) % q = 0 := by rw [← hk]; exact c_65
                  refine lv_iinc (v := zI (j + 1)) (lv' := [(5, .int (zI (j + 1))), (6, .int (zI (((zat d i j) * k) % q))), (4, .int (zI i)), (0, .ref m), (1, .ref h0), (2, .int (zI bx)), (3, .int (zI q))]) hX0 hB0 dX0_derive_103 hl (k := 1) rfl (zI_add _ _) (by decide) rfl (fun ls hl => ?_)
                  refine lv_goto (tgt := 25) hX0 hB0 dX0_derive_106 (by decide) ?_
                  exact ih25 (j + 1) ce ⟨by omega, by omega, by rw [zfor_s _ _ _ hj0, ← hece]; unfold zder_in; first | rw [if_pos hw0] | (rw [if_neg hw0, ← hk]; first | rw [if_pos c_73, if_pos c_73] | rw [if_neg c_73, if_neg c_73]), trivial⟩ (by omega) H locs ls hW (lv_sub hl [0, 2, 3, 4, 5, 6] rfl)
                ·
                  have hw0 : ¬ zat d i j * (if bx = 0 then j else i) % q = 0 := by rw [← hk]; exact c_65
                  refine lv_aload_n hX0 hB0 dX0_derive_68 rfl (lv_at hl 3 rfl) ?_
                  refine z_get (Cn := RX0) (T := TX0) (N := 10) CX hW (v := .ref (m + 1)) ((va_up_ne _ _ (by omega)).trans (va_up_self _ _ _)) rfl (fun w h => List.mem_cons_of_mem _ (List.mem_append_left _ (List.mem_append_right _ h))) 0 (by decide) (List.mem_of_getElem? (i := 2) rfl) rfl rfl dX0_derive_69 ?_
                  refine lv_iload_n hX0 hB0 dX0_derive_72 rfl (lv_at hl 5 rfl) ?_
                  refine z_if_eq (tgt := 83) CX dX0_derive_73 (by decide) (by constructor <;> omega) (fun c_73 => ?_) (fun c_73 => ?_)
                  ·
                    refine lv_iload hX0 hB0 dX0_derive_83 (lv_at hl 2 rfl) ?_
                    refine lv_iload_n hX0 hB0 dX0_derive_85 rfl (lv_at hl 5 rfl) ?_
                    refine z_if_eq (tgt := 94) CX dX0_derive_86 (by decide) (by constructor <;> omega) (fun c_86 => ?_) (fun c_86 => ?_)
                    ·
                      refine lv_iload hX0 hB0 dX0_derive_94 (lv_at hl 1 rfl) ?_
                      refine lv_iconst (v := zI 1) hX0 hB0 dX0_derive_96 rfl ?_
                      refine z_isub (z := j - 1) CX dX0_derive_97 rfl ?_
                      refine lv_iload hX0 hB0 dX0_derive_98 (lv_at hl 0 rfl) ?_
                      refine z_callv hW (va_runV (C := RX2) (As := [.int (zI i), .int (zI (j - 1)), .int (zI (((zat d i j) * k) % q))]) (rest := []) CX.fix (c_put l (f := va_up (va_up f m (.inr (0, [.ref (m + 1), .ref (m + 3), .ref (m + 4), .ref (m + 5), .ref (m + 6), .ref (m + 8), .ref (m + 10), .ref (m + 12), .ref (m + 13), .int (zI q)]))) (m + 2) (zA cI 25 ce)) (m + 1) (m + 2) ce i (j - 1) (((zat d i j) * k) % q) ((va_up_ne _ _ (by omega)).trans ((va_up_ne _ _ (by omega)).trans hM.2.1.1)) (va_up_self _ _ _) (by constructor <;> omega) (by constructor <;> omega)) (cwV 3 CX.fix.2.2.2.2 gX0_derive_X2_put rfl rfl rfl (by decide +kernel) ⟨Nat.le_of_ble_eq_true rfl, Nat.le_of_ble_eq_true rfl⟩) (z_preV CX hW (r := (RX2, TX2, 1)) ((va_up_ne _ _ (by omega)).trans ((va_up_ne _ _ (by omega)).trans hM.2.1.1)) rfl) rfl rfl hl.1 rfl (lv_room (Nat.le_of_ble_eq_true rfl)) dX0_derive_100 ⟨Nat.zero_le _, Nat.zero_le _⟩) (fun gn H locs hok100 hW => ?_)
                      have eg : gn = va_up (va_up f m (.inr (0, [.ref (m + 1), .ref (m + 3), .ref (m + 4), .ref (m + 5), .ref (m + 6), .ref (m + 8), .ref (m + 10), .ref (m + 12), .ref (m + 13), .int (zI q)]))) (m + 2) (zA cI 25 (zput ce i (j - 1) (((zat d i j) * k) % q))) := (hok100).trans va_up_up
                      rw [eg] at hW
                      clear eg
                      refine lv_iinc (v := zI (j + 1)) (lv' := [(5, .int (zI (j + 1))), (6, .int (zI (((zat d i j) * k) % q))), (4, .int (zI i)), (0, .ref m), (1, .ref h0), (2, .int (zI bx)), (3, .int (zI q))]) hX0 hB0 dX0_derive_103 hl (k := 1) rfl (zI_add _ _) (by decide) rfl (fun ls hl => ?_)
                      refine lv_goto (tgt := 25) hX0 hB0 dX0_derive_106 (by decide) ?_
                      exact ih25 (j + 1) (zput ce i (j - 1) (((zat d i j) * k) % q)) ⟨by omega, by omega, by rw [zfor_s _ _ _ hj0, ← hece]; unfold zder_in; first | rw [if_pos hw0] | (rw [if_neg hw0, ← hk]; first | rw [if_pos c_73, if_pos c_73] | rw [if_neg c_73, if_neg c_73]), trivial⟩ (by omega) H locs ls hW (lv_sub hl [0, 2, 3, 4, 5, 6] rfl)
                    ·
                      omega
                  ·
                    refine lv_iload hX0 hB0 dX0_derive_76 (lv_at hl 2 rfl) ?_
                    refine lv_iconst (v := zI 1) hX0 hB0 dX0_derive_78 rfl ?_
                    refine z_isub (z := i - 1) CX dX0_derive_79 rfl ?_
                    refine lv_goto (tgt := 85) hX0 hB0 dX0_derive_80 (by decide) ?_
                    refine lv_iload_n hX0 hB0 dX0_derive_85 rfl (lv_at hl 5 rfl) ?_
                    refine z_if_eq (tgt := 94) CX dX0_derive_86 (by decide) (by constructor <;> omega) (fun c_86 => ?_) (fun c_86 => ?_)
                    ·
                      omega
                    ·
                      refine lv_iload hX0 hB0 dX0_derive_89 (lv_at hl 1 rfl) ?_
                      refine lv_goto (tgt := 98) hX0 hB0 dX0_derive_91 (by decide) ?_
                      refine lv_iload hX0 hB0 dX0_derive_98 (lv_at hl 0 rfl) ?_
                      refine z_callv hW (va_runV (C := RX2) (As := [.int (zI (i - 1)), .int (zI j), .int (zI (((zat d i j) * k) % q))]) (rest := []) CX.fix (c_put l (f := va_up (va_up f m (.inr (0, [.ref (m + 1), .ref (m + 3), .ref (m + 4), .ref (m + 5), .ref (m + 6), .ref (m + 8), .ref (m + 10), .ref (m + 12), .ref (m + 13), .int (zI q)]))) (m + 2) (zA cI 25 ce)) (m + 1) (m + 2) ce (i - 1) j (((zat d i j) * k) % q) ((va_up_ne _ _ (by omega)).trans ((va_up_ne _ _ (by omega)).trans hM.2.1.1)) (va_up_self _ _ _) (by constructor <;> omega) (by constructor <;> omega)) (cwV 3 CX.fix.2.2.2.2 gX0_derive_X2_put rfl rfl rfl (by decide +kernel) ⟨Nat.le_of_ble_eq_true rfl, Nat.le_of_ble_eq_true rfl⟩) (z_preV CX hW (r := (RX2, TX2, 1)) ((va_up_ne _ _ (by omega)).trans ((va_up_ne _ _ (by omega)).trans hM.2.1.1)) rfl) rfl rfl hl.1 rfl (lv_room (Nat.le_of_ble_eq_true rfl)) dX0_derive_100 ⟨Nat.zero_le _, Nat.zero_le _⟩) (fun gn H locs hok100 hW => ?_)
                      have eg : gn = va_up (va_up f m (.inr (0, [.ref (m + 1), .ref (m + 3), .ref (m + 4), .ref (m + 5), .ref (m + 6), .ref (m + 8), .ref (m + 10), .ref (m + 12), .ref (m + 13), .int (zI q)]))) (m + 2) (zA cI 25 (zput ce (i - 1) j (((zat d i j) * k) % q))) := (hok100).trans va_up_up
                      rw [eg] at hW
                      clear eg
                      refine lv_iinc (v := zI (j + 1)) (lv' := [(5, .int (zI (j + 1))), (6, .int (zI (((zat d i j) * k) % q))), (4, .int (zI i)), (0, .ref m), (1, .ref h0), (2, .int (zI bx)), (3, .int (zI q))]) hX0 hB0 dX0_derive_103 hl (k := 1) rfl (zI_add _ _) (by decide) rfl (fun ls hl => ?_)
                      refine lv_goto (tgt := 25) hX0 hB0 dX0_derive_106 (by decide) ?_
                      exact ih25 (j + 1) (zput ce (i - 1) j (((zat d i j) * k) % q)) ⟨by omega, by omega, by rw [zfor_s _ _ _ hj0, ← hece]; unfold zder_in; first | rw [if_pos hw0] | (rw [if_neg hw0, ← hk]; first | rw [if_pos c_73, if_pos c_73] | rw [if_neg c_73, if_neg c_73]), trivial⟩ (by omega) H locs ls hW (lv_sub hl [0, 2, 3, 4, 5, 6] rfl)
              refine lv_iload_n hX0 hB0 dX0_derive_42 rfl (lv_at hl 4 rfl) ?_
              refine z_if_eq (tgt := 51) CX dX0_derive_43 (by decide) (by constructor <;> omega) (fun c_43 => ?_) (fun c_43 => ?_)
              ·
                refine lv_iload hX0 hB0 dX0_derive_51 (lv_at hl 0 rfl) ?_
                exact hJ53 j ⟨by first | rw [if_pos c_43] | rw [if_neg c_43], by omega, by omega⟩ H locs ls hW (lv_sub hl [0, 1, 2, 3, 4, 5] rfl)
              ·
                refine lv_iload hX0 hB0 dX0_derive_46 (lv_at hl 1 rfl) ?_
                refine lv_goto (tgt := 53) hX0 hB0 dX0_derive_48 (by decide) ?_
                exact hJ53 i ⟨by first | rw [if_pos c_43] | rw [if_neg c_43], by omega, by omega⟩ H locs ls hW (lv_sub hl [0, 1, 2, 3, 4, 5] rfl)
        exact hL25 _ 0 co ⟨by omega, Or.inr rfl, (zfor_0 _ _ _).symm, trivial⟩ (Nat.lt_succ_self _) H locs ls hW (lv_sub hl [0, 1, 2, 3, 4, 5] rfl)
  exact hL16 _ 0 (zone 0) ⟨by omega, Or.inr rfl, (zfor_0 _ _ _).symm, trivial⟩ (Nat.lt_succ_self _) H locs ls hW (lv_sub hl [0, 1, 2, 3, 4] rfl)
/-- the line through two POINTS: its numbers -/
def zlt (a b p : Int) : Int × Int × Int := (zpy a p * zpz b p - zpz a p * zpy b p, zpz a p * zpx b p - zpx a p * zpz b p, zpx a p * zpy b p - zpy a p * zpx b p)
set_option maxRecDepth 100000 in
set_option maxHeartbeats 4000000 in
/-- Maker.lineThrough -/
theorem c_lineThrough (l : Launch) {D : va_G} {cI cJ cZ cP cS cM : ClassId} {L : List Nat} {sz : Nat} {f : Nat → va_E} (m : Nat) (p : Int) (md sc nx ny : Nat → Int) (x1 y1 z1 x2 y2 z2 : Int) (PX PY RS : Nat → Nat → Int) (a b q : Int) (hM : zMk cI cP f m p md sc nx ny x1 y1 z1 x2 y2 z2 PX PY RS) (ha : -2147483648 ≤ a ∧ a ≤ 2147483647) (hb : -2147483648 ≤ b ∧ b ≤ 2147483647) (hp : 2 ≤ q ∧ q ≤ 31) : zMi l yX0_lineThrough wsX0_lineThrough 4 92 D (zT cI cJ cZ cP cS cM) L sz f [.ref m, .int (zI a), .int (zI b), .int (zI q)] (fun r g => zFr f g m (m + 46) ∧ ∃ (u1 v1 w1 u2 v2 w2 : Int), (¬ (a ≠ b ∧ zpt a q ∧ zpt b q) → r = 0 ∧ zMk cI cP g m q md sc nx ny u1 v1 w1 u2 v2 w2 PX PY RS) ∧ ((a ≠ b ∧ zpt a q ∧ zpt b q) → r = zmlb (zlt a b q).1 (zlt a b q).2.1 (zlt a b q).2.2 q ∧ zMk cI cP g m q (zml (zlt a b q).1 (zlt a b q).2.1 (zlt a b q).2.2 q) sc nx ny u1 v1 w1 u2 v2 w2 PX PY RS)) := by
  refine zWalk.met (nL := 7) (ret := (some .boolean)) (cc := cX0_lineThrough) (by decide) rfl (Nat.le_of_ble_eq_true rfl) ?_
  intro pg en st mi ag bl mt cd ls CX hW hl
  have CX : zC pg st mi ag mt cd cX0_lineThrough 7 (some .boolean) RX0 wsX0_lineThrough := CX
  generalize hQ : MQ bl _ ag st 0 0 _ = Q
  have hX0 := CX.1
  have hB0 := CX.2.1
  have hl : lv_has ls 7 [(0, .ref m), (1, .int (zI a)), (2, .int (zI b)), (3, .int (zI q))] := hl
  obtain ⟨H, eH⟩ : ∃ H, H = st.heap := ⟨_, rfl⟩
  obtain ⟨locs, eL⟩ : ∃ L : List Loc, L = [] := ⟨_, rfl⟩
  have hW : zW D (zT cI cJ cZ cP cS cM) L (zQ L sz) st f st.heap H locs := by rw [eH, eL]; exact hW
  suffices hgo : W pg l en ({ frames := 4, cells := 0, slots := 0, locals := 92 } : Room) st mi ag bl mt cd H locs 0 0 Q (F0 mi 0 ls []) by rw [eH, eL] at hgo; exact hgo
  clear eH eL
  refine lv_aload_n hX0 hB0 dX0_lineThrough_0 rfl (lv_at hl 0 rfl) ?_
  refine lv_iload_n hX0 hB0 dX0_lineThrough_1 rfl (lv_at hl 3 rfl) ?_
  refine z_put (Cn := RX0) (T := TX0) (N := 10) CX hW (v := .int (zI q)) hM.1 rfl (fun w h => List.mem_cons_of_mem _ (List.mem_append_left _ (List.mem_append_left _ (List.mem_append_right _ h)))) tyX0 tyX0_ok nmX0 9 (by decide) (List.mem_of_getElem? (i := 1) rfl) rfl rfl rfl rfl (Nat.le_of_ble_eq_true rfl) (g := va_up f m (.inr (0, [.ref (m + 1), .ref (m + 3), .ref (m + 4), .ref (m + 5), .ref (m + 6), .ref (m + 8), .ref (m + 10), .ref (m + 12), .ref (m + 13), .int (zI q)]))) rfl dX0_lineThrough_2 (fun H locs hW => ?_)
  refine lv_iload_n hX0 hB0 dX0_lineThrough_5 rfl (lv_at hl 1 rfl) ?_
  refine lv_iload_n hX0 hB0 dX0_lineThrough_6 rfl (lv_at hl 2 rfl) ?_
  refine z_icmp_eq (tgt := 40) CX dX0_lineThrough_7 (by decide) (by constructor <;> omega) (by constructor <;> omega) (fun c_7 => ?_) (fun c_7 => ?_)
  ·
    refine lv_iconst (v := zI 0) hX0 hB0 dX0_lineThrough_40 rfl ?_
    rw [← hQ]
    exact z_iret (z := 0) CX hW (by exact ⟨fun q_ hq => ((va_up_ne _ _ (by omega)).trans rfl), _, _, _, _, _, _, fun _ => ⟨rfl, ⟨(va_up_self _ _ _), ⟨((va_up_ne _ _ (by omega)).trans hM.2.1.1), ((va_up_ne _ _ (by omega)).trans hM.2.1.2)⟩, ⟨((va_up_ne _ _ (by omega)).trans hM.2.2.1.1), ((va_up_ne _ _ (by omega)).trans hM.2.2.1.2)⟩, ⟨((va_up_ne _ _ (by omega)).trans hM.2.2.2.1.1), ((va_up_ne _ _ (by omega)).trans hM.2.2.2.1.2)⟩, ⟨((va_up_ne _ _ (by omega)).trans hM.2.2.2.2.1.1), ((va_up_ne _ _ (by omega)).trans hM.2.2.2.2.1.2)⟩, ((va_up_ne _ _ (by omega)).trans hM.2.2.2.2.2.1), ((va_up_ne _ _ (by omega)).trans hM.2.2.2.2.2.2.1), ((va_up_ne _ _ (by omega)).trans hM.2.2.2.2.2.2.2.1), ((va_up_ne _ _ (by omega)).trans hM.2.2.2.2.2.2.2.2.1), ((va_up_ne _ _ (by omega)).trans hM.2.2.2.2.2.2.2.2.2.1), fun k hk => (hM.2.2.2.2.2.2.2.2.2.2.1 k hk).same ((va_up_ne _ _ (by omega)).trans rfl) ((va_up_ne _ _ (by omega)).trans rfl), fun k hk => (hM.2.2.2.2.2.2.2.2.2.2.2.1 k hk).same ((va_up_ne _ _ (by omega)).trans rfl) ((va_up_ne _ _ (by omega)).trans rfl), fun k hk => (hM.2.2.2.2.2.2.2.2.2.2.2.2 k hk).same ((va_up_ne _ _ (by omega)).trans rfl) ((va_up_ne _ _ (by omega)).trans rfl)⟩⟩, fun h9 => absurd h9 (by first | exact fun h8 => h8.1 c_7 | exact fun h8 => hnp h8.2.1 | exact fun h8 => hnp h8.2.2)⟩) rfl dX0_lineThrough_41
  ·
    refine lv_aload_n hX0 hB0 dX0_lineThrough_10 rfl (lv_at hl 0 rfl) ?_
    refine z_get (Cn := RX0) (T := TX0) (N := 10) CX hW (v := .ref (m + 12)) (va_up_self _ _ _) rfl (fun w h => List.mem_cons_of_mem _ (List.mem_append_left _ (List.mem_append_left _ (List.mem_append_right _ h)))) 7 (by decide) (List.mem_of_getElem? (i := 2) rfl) rfl rfl dX0_lineThrough_11 ?_
    refine lv_iload_n hX0 hB0 dX0_lineThrough_14 rfl (lv_at hl 1 rfl) ?_
    refine lv_aload_n hX0 hB0 dX0_lineThrough_15 rfl (lv_at hl 0 rfl) ?_
    refine z_get (Cn := RX0) (T := TX0) (N := 10) CX hW (v := .int (zI q)) (va_up_self _ _ _) rfl (fun w h => List.mem_cons_of_mem _ (List.mem_append_left _ (List.mem_append_left _ (List.mem_append_right _ h)))) 9 (by decide) (List.mem_of_getElem? (i := 1) rfl) rfl rfl dX0_lineThrough_16 ?_
    refine z_calli hW (va_runV (C := RX9) (As := [.int (zI a), .int (zI q)]) (rest := []) CX.fix (c_go l (f := va_up f m (.inr (0, [.ref (m + 1), .ref (m + 3), .ref (m + 4), .ref (m + 5), .ref (m + 6), .ref (m + 8), .ref (m + 10), .ref (m + 12), .ref (m + 13), .int (zI q)]))) (m + 12) x1 y1 z1 a q ((va_up_ne _ _ (by omega)).trans hM.2.2.2.2.2.1) (by constructor <;> omega) (by constructor <;> omega)) (cwV 2 CX.fix.2.2.2.2 gX0_lineThrough_X9_go rfl rfl rfl (by decide +kernel) ⟨Nat.le_of_ble_eq_true rfl, Nat.le_of_ble_eq_true rfl⟩) (z_preV CX hW (r := (RX9, TX9, 3)) ((va_up_ne _ _ (by omega)).trans hM.2.2.2.2.2.1) rfl) rfl rfl hl.1 rfl (lv_room (Nat.le_of_ble_eq_true rfl)) dX0_lineThrough_19 ⟨Nat.zero_le _, Nat.zero_le _⟩) (fun zv gn H locs hok19 hW => ?_)
    obtain ⟨ez, eg⟩ := hok19
    have eg : gn = va_up (va_up f m (.inr (0, [.ref (m + 1), .ref (m + 3), .ref (m + 4), .ref (m + 5), .ref (m + 6), .ref (m + 8), .ref (m + 10), .ref (m + 12), .ref (m + 13), .int (zI q)]))) (m + 12) (.inr (9, [.int (zI (zgo a q x1 (zpx a q))), .int (zI (zgo a q y1 (zpy a q))), .int (zI (zgo a q z1 (zpz a q)))])) := eg
    rw [eg] at hW
    clear eg
    have ez : zv = bI (zpt a q) := ez
    rw [ez]
    clear ez
    have hb19 := bI_01 (zpt a q)
    refine z_if_eq (tgt := 40) CX dX0_lineThrough_22 (by decide) (by constructor <;> omega) (fun c_22 => ?_) (fun c_22 => ?_)
    ·
      have hnp := bI_0 c_22
      refine lv_iconst (v := zI 0) hX0 hB0 dX0_lineThrough_40 rfl ?_
      rw [← hQ]
      exact z_iret (z := 0) CX hW (by exact ⟨fun q_ hq => ((va_up_ne _ _ (by omega)).trans ((va_up_ne _ _ (by omega)).trans rfl)), _, _, _, _, _, _, fun _ => ⟨rfl, ⟨((va_up_ne _ _ (by omega)).trans (va_up_self _ _ _)), ⟨((va_up_ne _ _ (by omega)).trans ((va_up_ne _ _ (by omega)).trans hM.2.1.1)), ((va_up_ne _ _ (by omega)).trans ((va_up_ne _ _ (by omega)).trans hM.2.1.2))⟩, ⟨((va_up_ne _ _ (by omega)).trans ((va_up_ne _ _ (by omega)).trans hM.2.2.1.1)), ((va_up_ne _ _ (by omega)).trans ((va_up_ne _ _ (by omega)).trans hM.2.2.1.2))⟩, ⟨((va_up_ne _ _ (by omega)).trans ((va_up_ne _ _ (by omega)).trans hM.2.2.2.1.1)), ((va_up_ne _ _ (by omega)).trans ((va_up_ne _ _ (by omega)).trans hM.2.2.2.1.2))⟩, ⟨((va_up_ne _ _ (by omega)).trans ((va_up_ne _ _ (by omega)).trans hM.2.2.2.2.1.1)), ((va_up_ne _ _ (by omega)).trans ((va_up_ne _ _ (by omega)).trans hM.2.2.2.2.1.2))⟩, (va_up_self _ _ _), ((va_up_ne _ _ (by omega)).trans ((va_up_ne _ _ (by omega)).trans hM.2.2.2.2.2.2.1)), ((va_up_ne _ _ (by omega)).trans ((va_up_ne _ _ (by omega)).trans hM.2.2.2.2.2.2.2.1)), ((va_up_ne _ _ (by omega)).trans ((va_up_ne _ _ (by omega)).trans hM.2.2.2.2.2.2.2.2.1)), ((va_up_ne _ _ (by omega)).trans ((va_up_ne _ _ (by omega)).trans hM.2.2.2.2.2.2.2.2.2.1)), fun k hk => (hM.2.2.2.2.2.2.2.2.2.2.1 k hk).same ((va_up_ne _ _ (by omega)).trans ((va_up_ne _ _ (by omega)).trans rfl)) ((va_up_ne _ _ (by omega)).trans ((va_up_ne _ _ (by omega)).trans rfl)), fun k hk => (hM.2.2.2.2.2.2.2.2.2.2.2.1 k hk).same ((va_up_ne _ _ (by omega)).trans ((va_up_ne _ _ (by omega)).trans rfl)) ((va_up_ne _ _ (by omega)).trans ((va_up_ne _ _ (by omega)).trans rfl)), fun k hk => (hM.2.2.2.2.2.2.2.2.2.2.2.2 k hk).same ((va_up_ne _ _ (by omega)).trans ((va_up_ne _ _ (by omega)).trans rfl)) ((va_up_ne _ _ (by omega)).trans ((va_up_ne _ _ (by omega)).trans rfl))⟩⟩, fun h9 => absurd h9 (by first | exact fun h8 => h8.1 c_7 | exact fun h8 => hnp h8.2.1 | exact fun h8 => hnp h8.2.2)⟩) rfl dX0_lineThrough_41
    ·
      have hpt22 := bI_1 (show ¬ bI (zpt a q) = 0 by first | exact c_22 | omega)
      rw [zgo_t hpt22, zgo_t hpt22, zgo_t hpt22] at hW
      have hpx22 := zpx_rng (p := q) (by omega) hpt22
      have hpy22 := zpy_rng (p := q) (by omega) hpt22
      have hpz22 := zpz_01 a q
      refine lv_aload_n hX0 hB0 dX0_lineThrough_25 rfl (lv_at hl 0 rfl) ?_
      refine z_get (Cn := RX0) (T := TX0) (N := 10) CX hW (v := .ref (m + 13)) ((va_up_ne _ _ (by omega)).trans (va_up_self _ _ _)) rfl (fun w h => List.mem_cons_of_mem _ (List.mem_append_left _ (List.mem_append_left _ (List.mem_append_right _ h)))) 8 (by decide) (List.mem_of_getElem? (i := 3) rfl) rfl rfl dX0_lineThrough_26 ?_
      refine lv_iload_n hX0 hB0 dX0_lineThrough_29 rfl (lv_at hl 2 rfl) ?_
      refine lv_aload_n hX0 hB0 dX0_lineThrough_30 rfl (lv_at hl 0 rfl) ?_
      refine z_get (Cn := RX0) (T := TX0) (N := 10) CX hW (v := .int (zI q)) ((va_up_ne _ _ (by omega)).trans (va_up_self _ _ _)) rfl (fun w h => List.mem_cons_of_mem _ (List.mem_append_left _ (List.mem_append_left _ (List.mem_append_right _ h)))) 9 (by decide) (List.mem_of_getElem? (i := 1) rfl) rfl rfl dX0_lineThrough_31 ?_
      refine z_calli hW (va_runV (C := RX9) (As := [.int (zI b), .int (zI q)]) (rest := []) CX.fix (c_go l (f := va_up (va_up f m (.inr (0, [.ref (m + 1), .ref (m + 3), .ref (m + 4), .ref (m + 5), .ref (m + 6), .ref (m + 8), .ref (m + 10), .ref (m + 12), .ref (m + 13), .int (zI q)]))) (m + 12) (.inr (9, [.int (zI (zpx a q)), .int (zI (zpy a q)), .int (zI (zpz a q))]))) (m + 13) x2 y2 z2 b q ((va_up_ne _ _ (by omega)).trans ((va_up_ne _ _ (by omega)).trans hM.2.2.2.2.2.2.1)) (by constructor <;> omega) (by constructor <;> omega)) (cwV 2 CX.fix.2.2.2.2 gX0_lineThrough_X9_go rfl rfl rfl (by decide +kernel) ⟨Nat.le_of_ble_eq_true rfl, Nat.le_of_ble_eq_true rfl⟩) (z_preV CX hW (r := (RX9, TX9, 3)) ((va_up_ne _ _ (by omega)).trans ((va_up_ne _ _ (by omega)).trans hM.2.2.2.2.2.2.1)) rfl) rfl rfl hl.1 rfl (lv_room (Nat.le_of_ble_eq_true rfl)) dX0_lineThrough_34 ⟨Nat.zero_le _, Nat.zero_le _⟩) (fun zv gn H locs hok34 hW => ?_)
      obtain ⟨ez, eg⟩ := hok34
      have eg : gn = va_up (va_up (va_up f m (.inr (0, [.ref (m + 1), .ref (m + 3), .ref (m + 4), .ref (m + 5), .ref (m + 6), .ref (m + 8), .ref (m + 10), .ref (m + 12), .ref (m + 13), .int (zI q)]))) (m + 12) (.inr (9, [.int (zI (zpx a q)), .int (zI (zpy a q)), .int (zI (zpz a q))]))) (m + 13) (.inr (9, [.int (zI (zgo b q x2 (zpx b q))), .int (zI (zgo b q y2 (zpy b q))), .int (zI (zgo b q z2 (zpz b q)))])) := eg
      rw [eg] at hW
      clear eg
      have ez : zv = bI (zpt b q) := ez
      rw [ez]
      clear ez
      have hb34 := bI_01 (zpt b q)
      refine z_if_ne (tgt := 42) CX dX0_lineThrough_37 (by decide) (by constructor <;> omega) (fun c_37 => ?_) (fun c_37 => ?_)
      ·
        have hpt37 := bI_1 (show ¬ bI (zpt b q) = 0 by first | exact c_37 | omega)
        rw [zgo_t hpt37, zgo_t hpt37, zgo_t hpt37] at hW
        have hpx37 := zpx_rng (p := q) (by omega) hpt37
        have hpy37 := zpy_rng (p := q) (by omega) hpt37
        have hpz37 := zpz_01 b q
        have hq0 := zmul_rng (a := zpy a q) (b := zpz b q) (A := 31) (B := 31) (by omega) (by omega)
        have hq1 := zmul_rng (a := zpz a q) (b := zpy b q) (A := 31) (B := 31) (by omega) (by omega)
        have hq2 := zmul_rng (a := zpz a q) (b := zpx b q) (A := 31) (B := 31) (by omega) (by omega)
        have hq3 := zmul_rng (a := zpx a q) (b := zpz b q) (A := 31) (B := 31) (by omega) (by omega)
        have hq4 := zmul_rng (a := zpx a q) (b := zpy b q) (A := 31) (B := 31) (by omega) (by omega)
        have hq5 := zmul_rng (a := zpy a q) (b := zpx b q) (A := 31) (B := 31) (by omega) (by omega)
        refine lv_aload_n hX0 hB0 dX0_lineThrough_42 rfl (lv_at hl 0 rfl) ?_
        refine z_get (Cn := RX0) (T := TX0) (N := 10) CX hW (v := .ref (m + 12)) ((va_up_ne _ _ (by omega)).trans ((va_up_ne _ _ (by omega)).trans (va_up_self _ _ _))) rfl (fun w h => List.mem_cons_of_mem _ (List.mem_append_left _ (List.mem_append_left _ (List.mem_append_right _ h)))) 7 (by decide) (List.mem_of_getElem? (i := 2) rfl) rfl rfl dX0_lineThrough_43 ?_
        refine z_get (Cn := RX9) (T := TX9) (N := 3) CX hW (v := .int (zI (zpy a q))) ((va_up_ne _ _ (by omega)).trans (va_up_self _ _ _)) rfl (fun w h => List.mem_cons_of_mem _ (List.mem_append_left _ (List.mem_append_right _ h))) 1 (by decide) (List.mem_of_getElem? (i := 4) rfl) rfl rfl dX0_lineThrough_46 ?_
        refine lv_aload_n hX0 hB0 dX0_lineThrough_49 rfl (lv_at hl 0 rfl) ?_
        refine z_get (Cn := RX0) (T := TX0) (N := 10) CX hW (v := .ref (m + 13)) ((va_up_ne _ _ (by omega)).trans ((va_up_ne _ _ (by omega)).trans (va_up_self _ _ _))) rfl (fun w h => List.mem_cons_of_mem _ (List.mem_append_left _ (List.mem_append_left _ (List.mem_append_right _ h)))) 8 (by decide) (List.mem_of_getElem? (i := 3) rfl) rfl rfl dX0_lineThrough_50 ?_
        refine z_get (Cn := RX9) (T := TX9) (N := 3) CX hW (v := .int (zI (zpz b q))) (va_up_self _ _ _) rfl (fun w h => List.mem_cons_of_mem _ (List.mem_append_left _ (List.mem_append_right _ h))) 2 (by decide) (List.mem_of_getElem? (i := 5) rfl) rfl rfl dX0_lineThrough_53 ?_
        refine z_imul (z := (zpy a q) * (zpz b q)) CX dX0_lineThrough_56 rfl ?_
        refine lv_aload_n hX0 hB0 dX0_lineThrough_57 rfl (lv_at hl 0 rfl) ?_
        refine z_get (Cn := RX0) (T := TX0) (N := 10) CX hW (v := .ref (m + 12)) ((va_up_ne _ _ (by omega)).trans ((va_up_ne _ _ (by omega)).trans (va_up_self _ _ _))) rfl (fun w h => List.mem_cons_of_mem _ (List.mem_append_left _ (List.mem_append_left _ (List.mem_append_right _ h)))) 7 (by decide) (List.mem_of_getElem? (i := 2) rfl) rfl rfl dX0_lineThrough_58 ?_
        refine z_get (Cn := RX9) (T := TX9) (N := 3) CX hW (v := .int (zI (zpz a q))) ((va_up_ne _ _ (by omega)).trans (va_up_self _ _ _)) rfl (fun w h => List.mem_cons_of_mem _ (List.mem_append_left _ (List.mem_append_right _ h))) 2 (by decide) (List.mem_of_getElem? (i := 5) rfl) rfl rfl dX0_lineThrough_61 ?_
        refine lv_aload_n hX0 hB0 dX0_lineThrough_64 rfl (lv_at hl 0 rfl) ?_
        refine z_get (Cn := RX0) (T := TX0) (N := 10) CX hW (v := .ref (m + 13)) ((va_up_ne _ _ (by omega)).trans ((va_up_ne _ _ (by omega)).trans (va_up_self _ _ _))) rfl (fun w h => List.mem_cons_of_mem _ (List.mem_append_left _ (List.mem_append_left _ (List.mem_append_right _ h)))) 8 (by decide) (List.mem_of_getElem? (i := 3) rfl) rfl rfl dX0_lineThrough_65 ?_
        refine z_get (Cn := RX9) (T := TX9) (N := 3) CX hW (v := .int (zI (zpy b q))) (va_up_self _ _ _) rfl (fun w h => List.mem_cons_of_mem _ (List.mem_append_left _ (List.mem_append_right _ h))) 1 (by decide) (List.mem_of_getElem? (i := 4) rfl) rfl rfl dX0_lineThrough_68 ?_
        refine z_imul (z := (zpz a q) * (zpy b q)) CX dX0_lineThrough_71 rfl ?_
        refine z_isub (z := ((zpy a q) * (zpz b q)) - ((zpz a q) * (zpy b q))) CX dX0_lineThrough_72 rfl ?_
        refine lv_istore (lv' := [(4, .int (zI (((zpy a q) * (zpz b q)) - ((zpz a q) * (zpy b q))))), (0, .ref m), (1, .int (zI a)), (2, .int (zI b)), (3, .int (zI q))]) hX0 hB0 dX0_lineThrough_73 hl (by decide) rfl (fun ls hl => ?_)
        refine lv_aload_n hX0 hB0 dX0_lineThrough_75 rfl (lv_at hl 1 rfl) ?_
        refine z_get (Cn := RX0) (T := TX0) (N := 10) CX hW (v := .ref (m + 12)) ((va_up_ne _ _ (by omega)).trans ((va_up_ne _ _ (by omega)).trans (va_up_self _ _ _))) rfl (fun w h => List.mem_cons_of_mem _ (List.mem_append_left _ (List.mem_append_left _ (List.mem_append_right _ h)))) 7 (by decide) (List.mem_of_getElem? (i := 2) rfl) rfl rfl dX0_lineThrough_76 ?_
        refine z_get (Cn := RX9) (T := TX9) (N := 3) CX hW (v := .int (zI (zpz a q))) ((va_up_ne _ _ (by omega)).trans (va_up_self _ _ _)) rfl (fun w h => List.mem_cons_of_mem _ (List.mem_append_left _ (List.mem_append_right _ h))) 2 (by decide) (List.mem_of_getElem? (i := 5) rfl) rfl rfl dX0_lineThrough_79 ?_
        refine lv_aload_n hX0 hB0 dX0_lineThrough_82 rfl (lv_at hl 1 rfl) ?_
        refine z_get (Cn := RX0) (T := TX0) (N := 10) CX hW (v := .ref (m + 13)) ((va_up_ne _ _ (by omega)).trans ((va_up_ne _ _ (by omega)).trans (va_up_self _ _ _))) rfl (fun w h => List.mem_cons_of_mem _ (List.mem_append_left _ (List.mem_append_left _ (List.mem_append_right _ h)))) 8 (by decide) (List.mem_of_getElem? (i := 3) rfl) rfl rfl dX0_lineThrough_83 ?_
        refine z_get (Cn := RX9) (T := TX9) (N := 3) CX hW (v := .int (zI (zpx b q))) (va_up_self _ _ _) rfl (fun w h => List.mem_cons_of_mem _ (List.mem_append_left _ (List.mem_append_right _ h))) 0 (by decide) (List.mem_of_getElem? (i := 6) rfl) rfl rfl dX0_lineThrough_86 ?_
        refine z_imul (z := (zpz a q) * (zpx b q)) CX dX0_lineThrough_89 rfl ?_
        refine lv_aload_n hX0 hB0 dX0_lineThrough_90 rfl (lv_at hl 1 rfl) ?_
        refine z_get (Cn := RX0) (T := TX0) (N := 10) CX hW (v := .ref (m + 12)) ((va_up_ne _ _ (by omega)).trans ((va_up_ne _ _ (by omega)).trans (va_up_self _ _ _))) rfl (fun w h => List.mem_cons_of_mem _ (List.mem_append_left _ (List.mem_append_left _ (List.mem_append_right _ h)))) 7 (by decide) (List.mem_of_getElem? (i := 2) rfl) rfl rfl dX0_lineThrough_91 ?_
        refine z_get (Cn := RX9) (T := TX9) (N := 3) CX hW (v := .int (zI (zpx a q))) ((va_up_ne _ _ (by omega)).trans (va_up_self _ _ _)) rfl (fun w h => List.mem_cons_of_mem _ (List.mem_append_left _ (List.mem_append_right _ h))) 0 (by decide) (List.mem_of_getElem? (i := 6) rfl) rfl rfl dX0_lineThrough_94 ?_
        refine lv_aload_n hX0 hB0 dX0_lineThrough_97 rfl (lv_at hl 1 rfl) ?_
        refine z_get (Cn := RX0) (T := TX0) (N := 10) CX hW (v := .ref (m + 13)) ((va_up_ne _ _ (by omega)).trans ((va_up_ne _ _ (by omega)).trans (va_up_self _ _ _))) rfl (fun w h => List.mem_cons_of_mem _ (List.mem_append_left _ (List.mem_append_left _ (List.mem_append_right _ h)))) 8 (by decide) (List.mem_of_getElem? (i := 3) rfl) rfl rfl dX0_lineThrough_98 ?_
        refine z_get (Cn := RX9) (T := TX9) (N := 3) CX hW (v := .int (zI (zpz b q))) (va_up_self _ _ _) rfl (fun w h => List.mem_cons_of_mem _ (List.mem_append_left _ (List.mem_append_right _ h))) 2 (by decide) (List.mem_of_getElem? (i := 5) rfl) rfl rfl dX0_lineThrough_101 ?_
        refine z_imul (z := (zpx a q) * (zpz b q)) CX dX0_lineThrough_104 rfl ?_
        refine z_isub (z := ((zpz a q) * (zpx b q)) - ((zpx a q) * (zpz b q))) CX dX0_lineThrough_105 rfl ?_
        refine lv_istore (lv' := [(5, .int (zI (((zpz a q) * (zpx b q)) - ((zpx a q) * (zpz b q))))), (4, .int (zI (((zpy a q) * (zpz b q)) - ((zpz a q) * (zpy b q))))), (0, .ref m), (1, .int (zI a)), (2, .int (zI b)), (3, .int (zI q))]) hX0 hB0 dX0_lineThrough_106 hl (by decide) rfl (fun ls hl => ?_)
        refine lv_aload_n hX0 hB0 dX0_lineThrough_108 rfl (lv_at hl 2 rfl) ?_
        refine z_get (Cn := RX0) (T := TX0) (N := 10) CX hW (v := .ref (m + 12)) ((va_up_ne _ _ (by omega)).trans ((va_up_ne _ _ (by omega)).trans (va_up_self _ _ _))) rfl (fun w h => List.mem_cons_of_mem _ (List.mem_append_left _ (List.mem_append_left _ (List.mem_append_right _ h)))) 7 (by decide) (List.mem_of_getElem? (i := 2) rfl) rfl rfl dX0_lineThrough_109 ?_
        refine z_get (Cn := RX9) (T := TX9) (N := 3) CX hW (v := .int (zI (zpx a q))) ((va_up_ne _ _ (by omega)).trans (va_up_self _ _ _)) rfl (fun w h => List.mem_cons_of_mem _ (List.mem_append_left _ (List.mem_append_right _ h))) 0 (by decide) (List.mem_of_getElem? (i := 6) rfl) rfl rfl dX0_lineThrough_112 ?_
        refine lv_aload_n hX0 hB0 dX0_lineThrough_115 rfl (lv_at hl 2 rfl) ?_
        refine z_get (Cn := RX0) (T := TX0) (N := 10) CX hW (v := .ref (m + 13)) ((va_up_ne _ _ (by omega)).trans ((va_up_ne _ _ (by omega)).trans (va_up_self _ _ _))) rfl (fun w h => List.mem_cons_of_mem _ (List.mem_append_left _ (List.mem_append_left _ (List.mem_append_right _ h)))) 8 (by decide) (List.mem_of_getElem? (i := 3) rfl) rfl rfl dX0_lineThrough_116 ?_
        refine z_get (Cn := RX9) (T := TX9) (N := 3) CX hW (v := .int (zI (zpy b q))) (va_up_self _ _ _) rfl (fun w h => List.mem_cons_of_mem _ (List.mem_append_left _ (List.mem_append_right _ h))) 1 (by decide) (List.mem_of_getElem? (i := 4) rfl) rfl rfl dX0_lineThrough_119 ?_
        refine z_imul (z := (zpx a q) * (zpy b q)) CX dX0_lineThrough_122 rfl ?_
        refine lv_aload_n hX0 hB0 dX0_lineThrough_123 rfl (lv_at hl 2 rfl) ?_
        refine z_get (Cn := RX0) (T := TX0) (N := 10) CX hW (v := .ref (m + 12)) ((va_up_ne _ _ (by omega)).trans ((va_up_ne _ _ (by omega)).trans (va_up_self _ _ _))) rfl (fun w h => List.mem_cons_of_mem _ (List.mem_append_left _ (List.mem_append_left _ (List.mem_append_right _ h)))) 7 (by decide) (List.mem_of_getElem? (i := 2) rfl) rfl rfl dX0_lineThrough_124 ?_
        refine z_get (Cn := RX9) (T := TX9) (N := 3) CX hW (v := .int (zI (zpy a q))) ((va_up_ne _ _ (by omega)).trans (va_up_self _ _ _)) rfl (fun w h => List.mem_cons_of_mem _ (List.mem_append_left _ (List.mem_append_right _ h))) 1 (by decide) (List.mem_of_getElem? (i := 4) rfl) rfl rfl dX0_lineThrough_127 ?_
        refine lv_aload_n hX0 hB0 dX0_lineThrough_130 rfl (lv_at hl 2 rfl) ?_
        refine z_get (Cn := RX0) (T := TX0) (N := 10) CX hW (v := .ref (m + 13)) ((va_up_ne _ _ (by omega)).trans ((va_up_ne _ _ (by omega)).trans (va_up_self _ _ _))) rfl (fun w h => List.mem_cons_of_mem _ (List.mem_append_left _ (List.mem_append_left _ (List.mem_append_right _ h)))) 8 (by decide) (List.mem_of_getElem? (i := 3) rfl) rfl rfl dX0_lineThrough_131 ?_
        refine z_get (Cn := RX9) (T := TX9) (N := 3) CX hW (v := .int (zI (zpx b q))) (va_up_self _ _ _) rfl (fun w h => List.mem_cons_of_mem _ (List.mem_append_left _ (List.mem_append_right _ h))) 0 (by decide) (List.mem_of_getElem? (i := 6) rfl) rfl rfl dX0_lineThrough_134 ?_
        refine z_imul (z := (zpy a q) * (zpx b q)) CX dX0_lineThrough_137 rfl ?_
        refine z_isub (z := ((zpx a q) * (zpy b q)) - ((zpy a q) * (zpx b q))) CX dX0_lineThrough_138 rfl ?_
        refine lv_istore (lv' := [(6, .int (zI (((zpx a q) * (zpy b q)) - ((zpy a q) * (zpx b q))))), (5, .int (zI (((zpz a q) * (zpx b q)) - ((zpx a q) * (zpz b q))))), (4, .int (zI (((zpy a q) * (zpz b q)) - ((zpz a q) * (zpy b q))))), (0, .ref m), (1, .int (zI a)), (2, .int (zI b)), (3, .int (zI q))]) hX0 hB0 dX0_lineThrough_139 hl (by decide) rfl (fun ls hl => ?_)
        refine lv_aload_n hX0 hB0 dX0_lineThrough_141 rfl (lv_at hl 3 rfl) ?_
        refine lv_iload hX0 hB0 dX0_lineThrough_142 (lv_at hl 2 rfl) ?_
        refine lv_iload hX0 hB0 dX0_lineThrough_144 (lv_at hl 1 rfl) ?_
        refine lv_iload hX0 hB0 dX0_lineThrough_146 (lv_at hl 0 rfl) ?_
        refine z_calli hW (va_runV (C := RX0) (As := [.int (zI (((zpy a q) * (zpz b q)) - ((zpz a q) * (zpy b q)))), .int (zI (((zpz a q) * (zpx b q)) - ((zpx a q) * (zpz b q)))), .int (zI (((zpx a q) * (zpy b q)) - ((zpy a q) * (zpx b q))))]) (rest := []) CX.fix (c_setLine0 l (f := va_up (va_up (va_up f m (.inr (0, [.ref (m + 1), .ref (m + 3), .ref (m + 4), .ref (m + 5), .ref (m + 6), .ref (m + 8), .ref (m + 10), .ref (m + 12), .ref (m + 13), .int (zI q)]))) (m + 12) (.inr (9, [.int (zI (zpx a q)), .int (zI (zpy a q)), .int (zI (zpz a q))]))) (m + 13) (.inr (9, [.int (zI (zpx b q)), .int (zI (zpy b q)), .int (zI (zpz b q))]))) m q md sc nx ny (zpx a q) (zpy a q) (zpz a q) (zpx b q) (zpy b q) (zpz b q) PX PY RS (((zpy a q) * (zpz b q)) - ((zpz a q) * (zpy b q))) (((zpz a q) * (zpx b q)) - ((zpx a q) * (zpz b q))) (((zpx a q) * (zpy b q)) - ((zpy a q) * (zpx b q))) ⟨((va_up_ne _ _ (by omega)).trans ((va_up_ne _ _ (by omega)).trans (va_up_self _ _ _))), ⟨((va_up_ne _ _ (by omega)).trans ((va_up_ne _ _ (by omega)).trans ((va_up_ne _ _ (by omega)).trans hM.2.1.1))), ((va_up_ne _ _ (by omega)).trans ((va_up_ne _ _ (by omega)).trans ((va_up_ne _ _ (by omega)).trans hM.2.1.2)))⟩, ⟨((va_up_ne _ _ (by omega)).trans ((va_up_ne _ _ (by omega)).trans ((va_up_ne _ _ (by omega)).trans hM.2.2.1.1))), ((va_up_ne _ _ (by omega)).trans ((va_up_ne _ _ (by omega)).trans ((va_up_ne _ _ (by omega)).trans hM.2.2.1.2)))⟩, ⟨((va_up_ne _ _ (by omega)).trans ((va_up_ne _ _ (by omega)).trans ((va_up_ne _ _ (by omega)).trans hM.2.2.2.1.1))), ((va_up_ne _ _ (by omega)).trans ((va_up_ne _ _ (by omega)).trans ((va_up_ne _ _ (by omega)).trans hM.2.2.2.1.2)))⟩, ⟨((va_up_ne _ _ (by omega)).trans ((va_up_ne _ _ (by omega)).trans ((va_up_ne _ _ (by omega)).trans hM.2.2.2.2.1.1))), ((va_up_ne _ _ (by omega)).trans ((va_up_ne _ _ (by omega)).trans ((va_up_ne _ _ (by omega)).trans hM.2.2.2.2.1.2)))⟩, ((va_up_ne _ _ (by omega)).trans (va_up_self _ _ _)), (va_up_self _ _ _), ((va_up_ne _ _ (by omega)).trans ((va_up_ne _ _ (by omega)).trans ((va_up_ne _ _ (by omega)).trans hM.2.2.2.2.2.2.2.1))), ((va_up_ne _ _ (by omega)).trans ((va_up_ne _ _ (by omega)).trans ((va_up_ne _ _ (by omega)).trans hM.2.2.2.2.2.2.2.2.1))), ((va_up_ne _ _ (by omega)).trans ((va_up_ne _ _ (by omega)).trans ((va_up_ne _ _ (by omega)).trans hM.2.2.2.2.2.2.2.2.2.1))), fun k hk => (hM.2.2.2.2.2.2.2.2.2.2.1 k hk).same ((va_up_ne _ _ (by omega)).trans ((va_up_ne _ _ (by omega)).trans ((va_up_ne _ _ (by omega)).trans rfl))) ((va_up_ne _ _ (by omega)).trans ((va_up_ne _ _ (by omega)).trans ((va_up_ne _ _ (by omega)).trans rfl))), fun k hk => (hM.2.2.2.2.2.2.2.2.2.2.2.1 k hk).same ((va_up_ne _ _ (by omega)).trans ((va_up_ne _ _ (by omega)).trans ((va_up_ne _ _ (by omega)).trans rfl))) ((va_up_ne _ _ (by omega)).trans ((va_up_ne _ _ (by omega)).trans ((va_up_ne _ _ (by omega)).trans rfl))), fun k hk => (hM.2.2.2.2.2.2.2.2.2.2.2.2 k hk).same ((va_up_ne _ _ (by omega)).trans ((va_up_ne _ _ (by omega)).trans ((va_up_ne _ _ (by omega)).trans rfl))) ((va_up_ne _ _ (by omega)).trans ((va_up_ne _ _ (by omega)).trans ((va_up_ne _ _ (by omega)).trans rfl)))⟩ (by omega) (by constructor <;> omega) (by constructor <;> omega) (by constructor <;> omega)) (cwV 3 CX.fix.2.2.2.2 gX0_lineThrough_X0_setLine rfl rfl rfl (by decide +kernel) ⟨Nat.le_of_ble_eq_true rfl, Nat.le_of_ble_eq_true rfl⟩) (z_preV CX hW (r := (RX0, TX0, 10)) ((va_up_ne _ _ (by omega)).trans ((va_up_ne _ _ (by omega)).trans (va_up_self _ _ _))) rfl) rfl rfl hl.1 rfl (lv_room (Nat.le_of_ble_eq_true rfl)) dX0_lineThrough_148 ⟨Nat.zero_le _, Nat.zero_le _⟩) (fun zv gn H locs hok148 hW => ?_)
        obtain ⟨ez, eg⟩ := hok148
        have eg : gn = va_up (va_up (va_up (va_up f m (.inr (0, [.ref (m + 1), .ref (m + 3), .ref (m + 4), .ref (m + 5), .ref (m + 6), .ref (m + 8), .ref (m + 10), .ref (m + 12), .ref (m + 13), .int (zI q)]))) (m + 12) (.inr (9, [.int (zI (zpx a q)), .int (zI (zpy a q)), .int (zI (zpz a q))]))) (m + 13) (.inr (9, [.int (zI (zpx b q)), .int (zI (zpy b q)), .int (zI (zpz b q))]))) (m + 2) (zA cI 25 (zml (((zpy a q) * (zpz b q)) - ((zpz a q) * (zpy b q))) (((zpz a q) * (zpx b q)) - ((zpx a q) * (zpz b q))) (((zpx a q) * (zpy b q)) - ((zpy a q) * (zpx b q))) q)) := eg
        rw [eg] at hW
        clear eg
        have ez : zv = zmlb (((zpy a q) * (zpz b q)) - ((zpz a q) * (zpy b q))) (((zpz a q) * (zpx b q)) - ((zpx a q) * (zpz b q))) (((zpx a q) * (zpy b q)) - ((zpy a q) * (zpx b q))) q := ez
        rw [ez]
        clear ez
        have hml148 : zmlb (((zpy a q) * (zpz b q)) - ((zpz a q) * (zpy b q))) (((zpz a q) * (zpx b q)) - ((zpx a q) * (zpz b q))) (((zpx a q) * (zpy b q)) - ((zpy a q) * (zpx b q))) q = 0 ∨ zmlb (((zpy a q) * (zpz b q)) - ((zpz a q) * (zpy b q))) (((zpz a q) * (zpx b q)) - ((zpx a q) * (zpz b q))) (((zpx a q) * (zpy b q)) - ((zpy a q) * (zpx b q))) q = 1 := by unfold zmlb; split <;> omega
        rw [← hQ]
        exact z_iret (z := zmlb (((zpy a q) * (zpz b q)) - ((zpz a q) * (zpy b q))) (((zpz a q) * (zpx b q)) - ((zpx a q) * (zpz b q))) (((zpx a q) * (zpy b q)) - ((zpy a q) * (zpx b q))) q) CX hW (by exact ⟨fun q_ hq => ((va_up_ne _ _ (by omega)).trans ((va_up_ne _ _ (by omega)).trans ((va_up_ne _ _ (by omega)).trans ((va_up_ne _ _ (by omega)).trans rfl)))), _, _, _, _, _, _, fun h9 => absurd ⟨c_7, hpt22, hpt37⟩ h9, fun _ => ⟨rfl, ⟨((va_up_ne _ _ (by omega)).trans ((va_up_ne _ _ (by omega)).trans ((va_up_ne _ _ (by omega)).trans (va_up_self _ _ _)))), ⟨((va_up_ne _ _ (by omega)).trans ((va_up_ne _ _ (by omega)).trans ((va_up_ne _ _ (by omega)).trans ((va_up_ne _ _ (by omega)).trans hM.2.1.1)))), (va_up_self _ _ _)⟩, ⟨((va_up_ne _ _ (by omega)).trans ((va_up_ne _ _ (by omega)).trans ((va_up_ne _ _ (by omega)).trans ((va_up_ne _ _ (by omega)).trans hM.2.2.1.1)))), ((va_up_ne _ _ (by omega)).trans ((va_up_ne _ _ (by omega)).trans ((va_up_ne _ _ (by omega)).trans ((va_up_ne _ _ (by omega)).trans hM.2.2.1.2))))⟩, ⟨((va_up_ne _ _ (by omega)).trans ((va_up_ne _ _ (by omega)).trans ((va_up_ne _ _ (by omega)).trans ((va_up_ne _ _ (by omega)).trans hM.2.2.2.1.1)))), ((va_up_ne _ _ (by omega)).trans ((va_up_ne _ _ (by omega)).trans ((va_up_ne _ _ (by omega)).trans ((va_up_ne _ _ (by omega)).trans hM.2.2.2.1.2))))⟩, ⟨((va_up_ne _ _ (by omega)).trans ((va_up_ne _ _ (by omega)).trans ((va_up_ne _ _ (by omega)).trans ((va_up_ne _ _ (by omega)).trans hM.2.2.2.2.1.1)))), ((va_up_ne _ _ (by omega)).trans ((va_up_ne _ _ (by omega)).trans ((va_up_ne _ _ (by omega)).trans ((va_up_ne _ _ (by omega)).trans hM.2.2.2.2.1.2))))⟩, ((va_up_ne _ _ (by omega)).trans ((va_up_ne _ _ (by omega)).trans (va_up_self _ _ _))), ((va_up_ne _ _ (by omega)).trans (va_up_self _ _ _)), ((va_up_ne _ _ (by omega)).trans ((va_up_ne _ _ (by omega)).trans ((va_up_ne _ _ (by omega)).trans ((va_up_ne _ _ (by omega)).trans hM.2.2.2.2.2.2.2.1)))), ((va_up_ne _ _ (by omega)).trans ((va_up_ne _ _ (by omega)).trans ((va_up_ne _ _ (by omega)).trans ((va_up_ne _ _ (by omega)).trans hM.2.2.2.2.2.2.2.2.1)))), ((va_up_ne _ _ (by omega)).trans ((va_up_ne _ _ (by omega)).trans ((va_up_ne _ _ (by omega)).trans ((va_up_ne _ _ (by omega)).trans hM.2.2.2.2.2.2.2.2.2.1)))), fun k hk => (hM.2.2.2.2.2.2.2.2.2.2.1 k hk).same ((va_up_ne _ _ (by omega)).trans ((va_up_ne _ _ (by omega)).trans ((va_up_ne _ _ (by omega)).trans ((va_up_ne _ _ (by omega)).trans rfl)))) ((va_up_ne _ _ (by omega)).trans ((va_up_ne _ _ (by omega)).trans ((va_up_ne _ _ (by omega)).trans ((va_up_ne _ _ (by omega)).trans rfl)))), fun k hk => (hM.2.2.2.2.2.2.2.2.2.2.2.1 k hk).same ((va_up_ne _ _ (by omega)).trans ((va_up_ne _ _ (by omega)).trans ((va_up_ne _ _ (by omega)).trans ((va_up_ne _ _ (by omega)).trans rfl)))) ((va_up_ne _ _ (by omega)).trans ((va_up_ne _ _ (by omega)).trans ((va_up_ne _ _ (by omega)).trans ((va_up_ne _ _ (by omega)).trans rfl)))), fun k hk => (hM.2.2.2.2.2.2.2.2.2.2.2.2 k hk).same ((va_up_ne _ _ (by omega)).trans ((va_up_ne _ _ (by omega)).trans ((va_up_ne _ _ (by omega)).trans ((va_up_ne _ _ (by omega)).trans rfl)))) ((va_up_ne _ _ (by omega)).trans ((va_up_ne _ _ (by omega)).trans ((va_up_ne _ _ (by omega)).trans ((va_up_ne _ _ (by omega)).trans rfl))))⟩⟩⟩) (zI_bool hml148) dX0_lineThrough_151
      ·
        have hnp := bI_0 (show bI (zpt b q) = 0 by omega)
        refine lv_iconst (v := zI 0) hX0 hB0 dX0_lineThrough_40 rfl ?_
        rw [← hQ]
        exact z_iret (z := 0) CX hW (by exact ⟨fun q_ hq => ((va_up_ne _ _ (by omega)).trans ((va_up_ne _ _ (by omega)).trans ((va_up_ne _ _ (by omega)).trans rfl))), _, _, _, _, _, _, fun _ => ⟨rfl, ⟨((va_up_ne _ _ (by omega)).trans ((va_up_ne _ _ (by omega)).trans (va_up_self _ _ _))), ⟨((va_up_ne _ _ (by omega)).trans ((va_up_ne _ _ (by omega)).trans ((va_up_ne _ _ (by omega)).trans hM.2.1.1))), ((va_up_ne _ _ (by omega)).trans ((va_up_ne _ _ (by omega)).trans ((va_up_ne _ _ (by omega)).trans hM.2.1.2)))⟩, ⟨((va_up_ne _ _ (by omega)).trans ((va_up_ne _ _ (by omega)).trans ((va_up_ne _ _ (by omega)).trans hM.2.2.1.1))), ((va_up_ne _ _ (by omega)).trans ((va_up_ne _ _ (by omega)).trans ((va_up_ne _ _ (by omega)).trans hM.2.2.1.2)))⟩, ⟨((va_up_ne _ _ (by omega)).trans ((va_up_ne _ _ (by omega)).trans ((va_up_ne _ _ (by omega)).trans hM.2.2.2.1.1))), ((va_up_ne _ _ (by omega)).trans ((va_up_ne _ _ (by omega)).trans ((va_up_ne _ _ (by omega)).trans hM.2.2.2.1.2)))⟩, ⟨((va_up_ne _ _ (by omega)).trans ((va_up_ne _ _ (by omega)).trans ((va_up_ne _ _ (by omega)).trans hM.2.2.2.2.1.1))), ((va_up_ne _ _ (by omega)).trans ((va_up_ne _ _ (by omega)).trans ((va_up_ne _ _ (by omega)).trans hM.2.2.2.2.1.2)))⟩, ((va_up_ne _ _ (by omega)).trans (va_up_self _ _ _)), (va_up_self _ _ _), ((va_up_ne _ _ (by omega)).trans ((va_up_ne _ _ (by omega)).trans ((va_up_ne _ _ (by omega)).trans hM.2.2.2.2.2.2.2.1))), ((va_up_ne _ _ (by omega)).trans ((va_up_ne _ _ (by omega)).trans ((va_up_ne _ _ (by omega)).trans hM.2.2.2.2.2.2.2.2.1))), ((va_up_ne _ _ (by omega)).trans ((va_up_ne _ _ (by omega)).trans ((va_up_ne _ _ (by omega)).trans hM.2.2.2.2.2.2.2.2.2.1))), fun k hk => (hM.2.2.2.2.2.2.2.2.2.2.1 k hk).same ((va_up_ne _ _ (by omega)).trans ((va_up_ne _ _ (by omega)).trans ((va_up_ne _ _ (by omega)).trans rfl))) ((va_up_ne _ _ (by omega)).trans ((va_up_ne _ _ (by omega)).trans ((va_up_ne _ _ (by omega)).trans rfl))), fun k hk => (hM.2.2.2.2.2.2.2.2.2.2.2.1 k hk).same ((va_up_ne _ _ (by omega)).trans ((va_up_ne _ _ (by omega)).trans ((va_up_ne _ _ (by omega)).trans rfl))) ((va_up_ne _ _ (by omega)).trans ((va_up_ne _ _ (by omega)).trans ((va_up_ne _ _ (by omega)).trans rfl))), fun k hk => (hM.2.2.2.2.2.2.2.2.2.2.2.2 k hk).same ((va_up_ne _ _ (by omega)).trans ((va_up_ne _ _ (by omega)).trans ((va_up_ne _ _ (by omega)).trans rfl))) ((va_up_ne _ _ (by omega)).trans ((va_up_ne _ _ (by omega)).trans ((va_up_ne _ _ (by omega)).trans rfl)))⟩⟩, fun h9 => absurd h9 (by first | exact fun h8 => h8.1 c_7 | exact fun h8 => hnp h8.2.1 | exact fun h8 => hnp h8.2.2)⟩) rfl dX0_lineThrough_41
set_option maxRecDepth 100000 in
set_option maxHeartbeats 4000000 in
/-- Maker.whereTo -/
theorem c_whereTo (l : Launch) {D : va_G} {cI cJ cZ cP cS cM : ClassId} {L : List Nat} {sz : Nat} {f : Nat → va_E} (m : Nat) (p : Int) (md sc nx ny : Nat → Int) (x1 y1 z1 x2 y2 z2 : Int) (PX PY RS : Nat → Nat → Int) (s : Nat) (x y z : Int) (hM : zMk cI cP f m p md sc nx ny x1 y1 z1 x2 y2 z2 PX PY RS) (hp : 2 ≤ p ∧ p ≤ 31) (hnx : zcan p nx) (hny : zcan p ny) (hs0 : f s = .inr (9, [.int (zI x), .int (zI y), .int (zI z)])) (hsd : s < m ∨ m + 46 ≤ s) (hx : 0 ≤ x ∧ x ≤ 31) (hy : 0 ≤ y ∧ y ≤ 31) (hz : 0 ≤ z ∧ z ≤ 1) : zMi l yX0_whereTo wsX0_whereTo 3 63 D (zT cI cJ cZ cP cS cM) L sz f [.ref m, .ref s] (fun r g => r = zwh nx ny p x y z ∧ g = f) := by
  refine zWalk.met (nL := 7) (ret := (some .int)) (cc := cX0_whereTo) (by decide) rfl (Nat.le_of_ble_eq_true rfl) ?_
  intro pg en st mi ag bl mt cd ls CX hW hl
  have CX : zC pg st mi ag mt cd cX0_whereTo 7 (some .int) RX0 wsX0_whereTo := CX
  generalize hQ : MQ bl _ ag st 0 0 _ = Q
  have hX0 := CX.1
  have hB0 := CX.2.1
  have hl : lv_has ls 7 [(0, .ref m), (1, .ref s)] := hl
  obtain ⟨H, eH⟩ : ∃ H, H = st.heap := ⟨_, rfl⟩
  obtain ⟨locs, eL⟩ : ∃ L : List Loc, L = [] := ⟨_, rfl⟩
  have hW : zW D (zT cI cJ cZ cP cS cM) L (zQ L sz) st f st.heap H locs := by rw [eH, eL]; exact hW
  suffices hgo : W pg l en ({ frames := 3, cells := 0, slots := 0, locals := 63 } : Room) st mi ag bl mt cd H locs 0 0 Q (F0 mi 0 ls []) by rw [eH, eL] at hgo; exact hgo
  clear eH eL
  have ha0 := zat_can (p := p) (by omega) hnx 1 0
  have ha1 := zat_can (p := p) (by omega) hny 0 1
  have ha2 := zat_can (p := p) (by omega) hnx 0 1
  have ha3 := zat_can (p := p) (by omega) hny 1 0
  have ha4 := zat_can (p := p) (by omega) hnx 0 0
  have ha5 := zat_can (p := p) (by omega) hny 0 0
  have hzx := zmul_rng (a := z) (b := zat nx 0 0) (A := 31) (B := 31) (by omega) (by omega)
  have hzy := zmul_rng (a := z) (b := zat ny 0 0) (A := 31) (B := 31) (by omega) (by omega)
  obtain ⟨X, hX⟩ : ∃ q : Int, q = x - z * zat nx 0 0 := ⟨_, rfl⟩
  obtain ⟨Y, hY⟩ : ∃ q : Int, q = y - z * zat ny 0 0 := ⟨_, rfl⟩
  have hk0 := zmul_abs (a := zat ny 0 1) (b := X) (A := 31) (B := 1000) (by omega) (by omega)
  have hk1 := zmul_abs (a := zat nx 0 1) (b := Y) (A := 31) (B := 1000) (by omega) (by omega)
  have hk2 := zmul_abs (a := zat nx 1 0) (b := Y) (A := 31) (B := 1000) (by omega) (by omega)
  have hk3 := zmul_abs (a := zat ny 1 0) (b := X) (A := 31) (B := 1000) (by omega) (by omega)
  have hpp := zmany_rng hp
  refine lv_aload_n hX0 hB0 dX0_whereTo_0 rfl (lv_at hl 1 rfl) ?_
  refine z_get (Cn := RX9) (T := TX9) (N := 3) CX hW (v := .int (zI x)) hs0 rfl (fun w h => List.mem_cons_of_mem _ (List.mem_append_left _ (List.mem_append_left _ (List.mem_append_right _ h)))) 0 (by decide) (List.mem_of_getElem? (i := 1) rfl) rfl rfl dX0_whereTo_1 ?_
  refine lv_aload_n hX0 hB0 dX0_whereTo_4 rfl (lv_at hl 1 rfl) ?_
  refine z_get (Cn := RX9) (T := TX9) (N := 3) CX hW (v := .int (zI z)) hs0 rfl (fun w h => List.mem_cons_of_mem _ (List.mem_append_left _ (List.mem_append_left _ (List.mem_append_right _ h)))) 2 (by decide) (List.mem_of_getElem? (i := 2) rfl) rfl rfl dX0_whereTo_5 ?_
  refine lv_aload_n hX0 hB0 dX0_whereTo_8 rfl (lv_at hl 0 rfl) ?_
  refine z_get (Cn := RX0) (T := TX0) (N := 10) CX hW (v := .ref (m + 8)) hM.1 rfl (fun w h => List.mem_cons_of_mem _ (List.mem_append_left _ (List.mem_append_right _ h))) 5 (by decide) (List.mem_of_getElem? (i := 3) rfl) rfl rfl dX0_whereTo_9 ?_
  refine lv_iconst (v := zI 0) hX0 hB0 dX0_whereTo_12 rfl ?_
  refine lv_iconst (v := zI 0) hX0 hB0 dX0_whereTo_13 rfl ?_
  refine z_calli hW (va_runV (C := RX2) (As := [.int (zI 0), .int (zI 0)]) (rest := [.int (zI z), .int (zI x)]) CX.fix (c_at l (f := f) (m + 8) (m + 9) nx 0 0 hM.2.2.2.1.1 hM.2.2.2.1.2 (by constructor <;> omega) (by constructor <;> omega)) (cwV 2 CX.fix.2.2.2.2 gX0_whereTo_X2_at rfl rfl rfl (by decide +kernel) ⟨Nat.le_of_ble_eq_true rfl, Nat.le_of_ble_eq_true rfl⟩) (z_preV CX hW (r := (RX2, TX2, 1)) hM.2.2.2.1.1 rfl) rfl rfl hl.1 rfl (lv_room (Nat.le_of_ble_eq_true rfl)) dX0_whereTo_14 ⟨Nat.zero_le _, Nat.zero_le _⟩) (fun zv gn H locs hok14 hW => ?_)
  obtain ⟨ez, eg⟩ := hok14
  have eg : gn = f := eg
  rw [eg] at hW
  clear eg
  have ez : zv = zat nx 0 0 := ez
  rw [ez]
  clear ez
  refine z_imul (z := z * (zat nx 0 0)) CX dX0_whereTo_17 rfl ?_
  refine z_isub (z := x - (z * (zat nx 0 0))) CX dX0_whereTo_18 rfl ?_
  rw [← hX]
  refine lv_istore_n (lv' := [(2, .int (zI X)), (0, .ref m), (1, .ref s)]) hX0 hB0 dX0_whereTo_19 rfl hl (by decide) rfl (fun ls hl => ?_)
  refine lv_aload_n hX0 hB0 dX0_whereTo_20 rfl (lv_at hl 2 rfl) ?_
  refine z_get (Cn := RX9) (T := TX9) (N := 3) CX hW (v := .int (zI y)) hs0 rfl (fun w h => List.mem_cons_of_mem _ (List.mem_append_left _ (List.mem_append_left _ (List.mem_append_right _ h)))) 1 (by decide) (List.mem_of_getElem? (i := 4) rfl) rfl rfl dX0_whereTo_21 ?_
  refine lv_aload_n hX0 hB0 dX0_whereTo_24 rfl (lv_at hl 2 rfl) ?_
  refine z_get (Cn := RX9) (T := TX9) (N := 3) CX hW (v := .int (zI z)) hs0 rfl (fun w h => List.mem_cons_of_mem _ (List.mem_append_left _ (List.mem_append_left _ (List.mem_append_right _ h)))) 2 (by decide) (List.mem_of_getElem? (i := 2) rfl) rfl rfl dX0_whereTo_25 ?_
  refine lv_aload_n hX0 hB0 dX0_whereTo_28 rfl (lv_at hl 1 rfl) ?_
  refine z_get (Cn := RX0) (T := TX0) (N := 10) CX hW (v := .ref (m + 10)) hM.1 rfl (fun w h => List.mem_cons_of_mem _ (List.mem_append_left _ (List.mem_append_right _ h))) 6 (by decide) (List.mem_of_getElem? (i := 5) rfl) rfl rfl dX0_whereTo_29 ?_
  refine lv_iconst (v := zI 0) hX0 hB0 dX0_whereTo_32 rfl ?_
  refine lv_iconst (v := zI 0) hX0 hB0 dX0_whereTo_33 rfl ?_
  refine z_calli hW (va_runV (C := RX2) (As := [.int (zI 0), .int (zI 0)]) (rest := [.int (zI z), .int (zI y)]) CX.fix (c_at l (f := f) (m + 10) (m + 11) ny 0 0 hM.2.2.2.2.1.1 hM.2.2.2.2.1.2 (by constructor <;> omega) (by constructor <;> omega)) (cwV 2 CX.fix.2.2.2.2 gX0_whereTo_X2_at rfl rfl rfl (by decide +kernel) ⟨Nat.le_of_ble_eq_true rfl, Nat.le_of_ble_eq_true rfl⟩) (z_preV CX hW (r := (RX2, TX2, 1)) hM.2.2.2.2.1.1 rfl) rfl rfl hl.1 rfl (lv_room (Nat.le_of_ble_eq_true rfl)) dX0_whereTo_34 ⟨Nat.zero_le _, Nat.zero_le _⟩) (fun zv gn H locs hok34 hW => ?_)
  obtain ⟨ez, eg⟩ := hok34
  have eg : gn = f := eg
  rw [eg] at hW
  clear eg
  have ez : zv = zat ny 0 0 := ez
  rw [ez]
  clear ez
  refine z_imul (z := z * (zat ny 0 0)) CX dX0_whereTo_37 rfl ?_
  refine z_isub (z := y - (z * (zat ny 0 0))) CX dX0_whereTo_38 rfl ?_
  rw [← hY]
  refine lv_istore_n (lv' := [(3, .int (zI Y)), (2, .int (zI X)), (0, .ref m), (1, .ref s)]) hX0 hB0 dX0_whereTo_39 rfl hl (by decide) rfl (fun ls hl => ?_)
  refine lv_aload_n hX0 hB0 dX0_whereTo_40 rfl (lv_at hl 2 rfl) ?_
  refine z_calli hW (va_runV (C := RX0) (As := []) (rest := []) CX.fix (c_determinant l (f := f) m p md sc nx ny x1 y1 z1 x2 y2 z2 PX PY RS ⟨hM.1, ⟨hM.2.1.1, hM.2.1.2⟩, ⟨hM.2.2.1.1, hM.2.2.1.2⟩, ⟨hM.2.2.2.1.1, hM.2.2.2.1.2⟩, ⟨hM.2.2.2.2.1.1, hM.2.2.2.2.1.2⟩, hM.2.2.2.2.2.1, hM.2.2.2.2.2.2.1, hM.2.2.2.2.2.2.2.1, hM.2.2.2.2.2.2.2.2.1, hM.2.2.2.2.2.2.2.2.2.1, fun k hk => (hM.2.2.2.2.2.2.2.2.2.2.1 k hk).same rfl rfl, fun k hk => (hM.2.2.2.2.2.2.2.2.2.2.2.1 k hk).same rfl rfl, fun k hk => (hM.2.2.2.2.2.2.2.2.2.2.2.2 k hk).same rfl rfl⟩ (by omega) (by assumption) (by assumption)) (cwV 0 CX.fix.2.2.2.2 gX0_whereTo_X0_determinant rfl rfl rfl (by decide +kernel) ⟨Nat.le_of_ble_eq_true rfl, Nat.le_of_ble_eq_true rfl⟩) (z_preV CX hW (r := (RX0, TX0, 10)) hM.1 rfl) rfl rfl hl.1 rfl (lv_room (Nat.le_of_ble_eq_true rfl)) dX0_whereTo_41 ⟨Nat.zero_le _, Nat.zero_le _⟩) (fun zv gn H locs hok41 hW => ?_)
  obtain ⟨ez, eg⟩ := hok41
  have eg : gn = f := eg
  rw [eg] at hW
  clear eg
  have ez : zv = zdet nx ny p := ez
  rw [ez]
  clear ez
  have hdt41 := zdet_rng nx ny (p := p) (by omega)
  refine lv_aload_n hX0 hB0 dX0_whereTo_44 rfl (lv_at hl 2 rfl) ?_
  refine z_get (Cn := RX0) (T := TX0) (N := 10) CX hW (v := .int (zI p)) hM.1 rfl (fun w h => List.mem_cons_of_mem _ (List.mem_append_left _ (List.mem_append_right _ h))) 9 (by decide) (List.mem_of_getElem? (i := 6) rfl) rfl rfl dX0_whereTo_45 ?_
  refine z_calli hW (va_runSN (As := [.int (zI (zdet nx ny p)), .int (zI p)]) (rest := []) CX.fix (c_inverse l (f := f) (zdet nx ny p) p (by constructor <;> omega) (by constructor <;> omega)) ⟨va_cnB (own := RX0) (host := "CurveMeets") (index := 107) 2 CX.fix.2.2.2.2 ggX0_whereTo_X11_inverse rfl rfl rfl (CX.2.2.2.2.2.2.2.1 _ (by decide +kernel)) (CX.at (List.mem_of_getElem? (i := 22) rfl)) (by decide +kernel) ⟨Nat.le_of_ble_eq_true rfl, Nat.le_of_ble_eq_true rfl⟩, CX.at (List.mem_of_getElem? (i := 24) rfl), trivial⟩ (z_preS CX hW) rfl rfl hl.1 rfl (lv_room (Nat.le_of_ble_eq_true rfl)) dX0_whereTo_48 ⟨Nat.zero_le _, Nat.zero_le _⟩) (fun zv gn H locs hok48 hW => ?_)
  obtain ⟨ez, eg⟩ := hok48
  have eg : gn = f := eg
  rw [eg] at hW
  clear eg
  have ez : zv = zinv (zdet nx ny p) p := ez
  rw [ez]
  clear ez
  have hinv48 := zinv_rng (zdet nx ny p) (p := p) (by omega)
  have hvr := zinv_rng (zdet nx ny p) (p := p) (by omega)
  refine lv_istore (lv' := [(4, .int (zI (zinv (zdet nx ny p) p))), (3, .int (zI Y)), (2, .int (zI X)), (0, .ref m), (1, .ref s)]) hX0 hB0 dX0_whereTo_51 hl (by decide) rfl (fun ls hl => ?_)
  refine lv_iload hX0 hB0 dX0_whereTo_53 (lv_at hl 0 rfl) ?_
  refine lv_aload_n hX0 hB0 dX0_whereTo_55 rfl (lv_at hl 3 rfl) ?_
  refine z_get (Cn := RX0) (T := TX0) (N := 10) CX hW (v := .ref (m + 10)) hM.1 rfl (fun w h => List.mem_cons_of_mem _ (List.mem_append_left _ (List.mem_append_right _ h))) 6 (by decide) (List.mem_of_getElem? (i := 5) rfl) rfl rfl dX0_whereTo_56 ?_
  refine lv_iconst (v := zI 0) hX0 hB0 dX0_whereTo_59 rfl ?_
  refine lv_iconst (v := zI 1) hX0 hB0 dX0_whereTo_60 rfl ?_
  refine z_calli hW (va_runV (C := RX2) (As := [.int (zI 0), .int (zI 1)]) (rest := [.int (zI (zinv (zdet nx ny p) p))]) CX.fix (c_at l (f := f) (m + 10) (m + 11) ny 0 1 hM.2.2.2.2.1.1 hM.2.2.2.2.1.2 (by constructor <;> omega) (by constructor <;> omega)) (cwV 2 CX.fix.2.2.2.2 gX0_whereTo_X2_at rfl rfl rfl (by decide +kernel) ⟨Nat.le_of_ble_eq_true rfl, Nat.le_of_ble_eq_true rfl⟩) (z_preV CX hW (r := (RX2, TX2, 1)) hM.2.2.2.2.1.1 rfl) rfl rfl hl.1 rfl (lv_room (Nat.le_of_ble_eq_true rfl)) dX0_whereTo_61 ⟨Nat.zero_le _, Nat.zero_le _⟩) (fun zv gn H locs hok61 hW => ?_)
  obtain ⟨ez, eg⟩ := hok61
  have eg : gn = f := eg
  rw [eg] at hW
  clear eg
  have ez : zv = zat ny 0 1 := ez
  rw [ez]
  clear ez
  refine lv_iload_n hX0 hB0 dX0_whereTo_64 rfl (lv_at hl 2 rfl) ?_
  refine z_imul (z := (zat ny 0 1) * X) CX dX0_whereTo_65 rfl ?_
  refine lv_aload_n hX0 hB0 dX0_whereTo_66 rfl (lv_at hl 3 rfl) ?_
  refine z_get (Cn := RX0) (T := TX0) (N := 10) CX hW (v := .ref (m + 8)) hM.1 rfl (fun w h => List.mem_cons_of_mem _ (List.mem_append_left _ (List.mem_append_right _ h))) 5 (by decide) (List.mem_of_getElem? (i := 3) rfl) rfl rfl dX0_whereTo_67 ?_
  refine lv_iconst (v := zI 0) hX0 hB0 dX0_whereTo_70 rfl ?_
  refine lv_iconst (v := zI 1) hX0 hB0 dX0_whereTo_71 rfl ?_
  refine z_calli hW (va_runV (C := RX2) (As := [.int (zI 0), .int (zI 1)]) (rest := [.int (zI ((zat ny 0 1) * X)), .int (zI (zinv (zdet nx ny p) p))]) CX.fix (c_at l (f := f) (m + 8) (m + 9) nx 0 1 hM.2.2.2.1.1 hM.2.2.2.1.2 (by constructor <;> omega) (by constructor <;> omega)) (cwV 2 CX.fix.2.2.2.2 gX0_whereTo_X2_at rfl rfl rfl (by decide +kernel) ⟨Nat.le_of_ble_eq_true rfl, Nat.le_of_ble_eq_true rfl⟩) (z_preV CX hW (r := (RX2, TX2, 1)) hM.2.2.2.1.1 rfl) rfl rfl hl.1 rfl (lv_room (Nat.le_of_ble_eq_true rfl)) dX0_whereTo_72 ⟨Nat.zero_le _, Nat.zero_le _⟩) (fun zv gn H locs hok72 hW => ?_)
  obtain ⟨ez, eg⟩ := hok72
  have eg : gn = f := eg
  rw [eg] at hW
  clear eg
  have ez : zv = zat nx 0 1 := ez
  rw [ez]
  clear ez
  refine lv_iload_n hX0 hB0 dX0_whereTo_75 rfl (lv_at hl 1 rfl) ?_
  refine z_imul (z := (zat nx 0 1) * Y) CX dX0_whereTo_76 rfl ?_
  refine z_isub (z := ((zat ny 0 1) * X) - ((zat nx 0 1) * Y)) CX dX0_whereTo_77 rfl ?_
  refine lv_aload_n hX0 hB0 dX0_whereTo_78 rfl (lv_at hl 3 rfl) ?_
  refine z_get (Cn := RX0) (T := TX0) (N := 10) CX hW (v := .int (zI p)) hM.1 rfl (fun w h => List.mem_cons_of_mem _ (List.mem_append_left _ (List.mem_append_right _ h))) 9 (by decide) (List.mem_of_getElem? (i := 6) rfl) rfl rfl dX0_whereTo_79 ?_
  refine z_calli hW (va_runSN (As := [.int (zI (((zat ny 0 1) * X) - ((zat nx 0 1) * Y))), .int (zI p)]) (rest := [.int (zI (zinv (zdet nx ny p) p))]) CX.fix (c_mod l (f := f) (((zat ny 0 1) * X) - ((zat nx 0 1) * Y)) p (by constructor <;> omega) (by constructor <;> omega)) ⟨va_cnB (own := RX0) (host := "CurveMeets") (index := 51) 2 CX.fix.2.2.2.2 ggX0_whereTo_X11_mod rfl rfl rfl (CX.2.2.2.2.2.2.2.1 _ (by decide +kernel)) (CX.at (List.mem_of_getElem? (i := 22) rfl)) (by decide +kernel) ⟨Nat.le_of_ble_eq_true rfl, Nat.le_of_ble_eq_true rfl⟩, CX.at (List.mem_of_getElem? (i := 21) rfl), trivial⟩ (z_preS CX hW) rfl rfl hl.1 rfl (lv_room (Nat.le_of_ble_eq_true rfl)) dX0_whereTo_82 ⟨Nat.zero_le _, Nat.zero_le _⟩) (fun zv gn H locs hok82 hW => ?_)
  obtain ⟨ez, eg⟩ := hok82
  have eg : gn = f := eg
  rw [eg] at hW
  clear eg
  have ez : zv = (((zat ny 0 1) * X) - ((zat nx 0 1) * Y)) % p := ez
  rw [ez]
  clear ez
  have hm82 := zmr (((zat ny 0 1) * X) - ((zat nx 0 1) * Y)) (p := p) (by omega)
  have hl1 := zmul_rng (a := zinv (zdet nx ny p) p) (b := (zat ny 0 1 * X - zat nx 0 1 * Y) % p) (A := 31) (B := 31) (by omega) (by omega)
  refine z_imul (z := (zinv (zdet nx ny p) p) * ((((zat ny 0 1) * X) - ((zat nx 0 1) * Y)) % p)) CX dX0_whereTo_85 rfl ?_
  refine lv_aload_n hX0 hB0 dX0_whereTo_86 rfl (lv_at hl 3 rfl) ?_
  refine z_get (Cn := RX0) (T := TX0) (N := 10) CX hW (v := .int (zI p)) hM.1 rfl (fun w h => List.mem_cons_of_mem _ (List.mem_append_left _ (List.mem_append_right _ h))) 9 (by decide) (List.mem_of_getElem? (i := 6) rfl) rfl rfl dX0_whereTo_87 ?_
  refine z_calli hW (va_runSN (As := [.int (zI ((zinv (zdet nx ny p) p) * ((((zat ny 0 1) * X) - ((zat nx 0 1) * Y)) % p))), .int (zI p)]) (rest := []) CX.fix (c_mod l (f := f) ((zinv (zdet nx ny p) p) * ((((zat ny 0 1) * X) - ((zat nx 0 1) * Y)) % p)) p (by constructor <;> omega) (by constructor <;> omega)) ⟨va_cnB (own := RX0) (host := "CurveMeets") (index := 51) 2 CX.fix.2.2.2.2 ggX0_whereTo_X11_mod rfl rfl rfl (CX.2.2.2.2.2.2.2.1 _ (by decide +kernel)) (CX.at (List.mem_of_getElem? (i := 22) rfl)) (by decide +kernel) ⟨Nat.le_of_ble_eq_true rfl, Nat.le_of_ble_eq_true rfl⟩, CX.at (List.mem_of_getElem? (i := 21) rfl), trivial⟩ (z_preS CX hW) rfl rfl hl.1 rfl (lv_room (Nat.le_of_ble_eq_true rfl)) dX0_whereTo_90 ⟨Nat.zero_le _, Nat.zero_le _⟩) (fun zv gn H locs hok90 hW => ?_)
  obtain ⟨ez, eg⟩ := hok90
  have eg : gn = f := eg
  rw [eg] at hW
  clear eg
  have ez : zv = ((zinv (zdet nx ny p) p) * ((((zat ny 0 1) * X) - ((zat nx 0 1) * Y)) % p)) % p := ez
  rw [ez]
  clear ez
  have hm90 := zmr ((zinv (zdet nx ny p) p) * ((((zat ny 0 1) * X) - ((zat nx 0 1) * Y)) % p)) (p := p) (by omega)
  refine lv_istore (lv' := [(5, .int (zI (((zinv (zdet nx ny p) p) * ((((zat ny 0 1) * X) - ((zat nx 0 1) * Y)) % p)) % p))), (4, .int (zI (zinv (zdet nx ny p) p))), (3, .int (zI Y)), (2, .int (zI X)), (0, .ref m), (1, .ref s)]) hX0 hB0 dX0_whereTo_93 hl (by decide) rfl (fun ls hl => ?_)
  refine lv_iload hX0 hB0 dX0_whereTo_95 (lv_at hl 1 rfl) ?_
  refine lv_aload_n hX0 hB0 dX0_whereTo_97 rfl (lv_at hl 4 rfl) ?_
  refine z_get (Cn := RX0) (T := TX0) (N := 10) CX hW (v := .ref (m + 8)) hM.1 rfl (fun w h => List.mem_cons_of_mem _ (List.mem_append_left _ (List.mem_append_right _ h))) 5 (by decide) (List.mem_of_getElem? (i := 3) rfl) rfl rfl dX0_whereTo_98 ?_
  refine lv_iconst (v := zI 1) hX0 hB0 dX0_whereTo_101 rfl ?_
  refine lv_iconst (v := zI 0) hX0 hB0 dX0_whereTo_102 rfl ?_
  refine z_calli hW (va_runV (C := RX2) (As := [.int (zI 1), .int (zI 0)]) (rest := [.int (zI (zinv (zdet nx ny p) p))]) CX.fix (c_at l (f := f) (m + 8) (m + 9) nx 1 0 hM.2.2.2.1.1 hM.2.2.2.1.2 (by constructor <;> omega) (by constructor <;> omega)) (cwV 2 CX.fix.2.2.2.2 gX0_whereTo_X2_at rfl rfl rfl (by decide +kernel) ⟨Nat.le_of_ble_eq_true rfl, Nat.le_of_ble_eq_true rfl⟩) (z_preV CX hW (r := (RX2, TX2, 1)) hM.2.2.2.1.1 rfl) rfl rfl hl.1 rfl (lv_room (Nat.le_of_ble_eq_true rfl)) dX0_whereTo_103 ⟨Nat.zero_le _, Nat.zero_le _⟩) (fun zv gn H locs hok103 hW => ?_)
  obtain ⟨ez, eg⟩ := hok103
  have eg : gn = f := eg
  rw [eg] at hW
  clear eg
  have ez : zv = zat nx 1 0 := ez
  rw [ez]
  clear ez
  refine lv_iload_n hX0 hB0 dX0_whereTo_106 rfl (lv_at hl 2 rfl) ?_
  refine z_imul (z := (zat nx 1 0) * Y) CX dX0_whereTo_107 rfl ?_
  refine lv_aload_n hX0 hB0 dX0_whereTo_108 rfl (lv_at hl 4 rfl) ?_
  refine z_get (Cn := RX0) (T := TX0) (N := 10) CX hW (v := .ref (m + 10)) hM.1 rfl (fun w h => List.mem_cons_of_mem _ (List.mem_append_left _ (List.mem_append_right _ h))) 6 (by decide) (List.mem_of_getElem? (i := 5) rfl) rfl rfl dX0_whereTo_109 ?_
  refine lv_iconst (v := zI 1) hX0 hB0 dX0_whereTo_112 rfl ?_
  refine lv_iconst (v := zI 0) hX0 hB0 dX0_whereTo_113 rfl ?_
  refine z_calli hW (va_runV (C := RX2) (As := [.int (zI 1), .int (zI 0)]) (rest := [.int (zI ((zat nx 1 0) * Y)), .int (zI (zinv (zdet nx ny p) p))]) CX.fix (c_at l (f := f) (m + 10) (m + 11) ny 1 0 hM.2.2.2.2.1.1 hM.2.2.2.2.1.2 (by constructor <;> omega) (by constructor <;> omega)) (cwV 2 CX.fix.2.2.2.2 gX0_whereTo_X2_at rfl rfl rfl (by decide +kernel) ⟨Nat.le_of_ble_eq_true rfl, Nat.le_of_ble_eq_true rfl⟩) (z_preV CX hW (r := (RX2, TX2, 1)) hM.2.2.2.2.1.1 rfl) rfl rfl hl.1 rfl (lv_room (Nat.le_of_ble_eq_true rfl)) dX0_whereTo_114 ⟨Nat.zero_le _, Nat.zero_le _⟩) (fun zv gn H locs hok114 hW => ?_)
  obtain ⟨ez, eg⟩ := hok114
  have eg : gn = f := eg
  rw [eg] at hW
  clear eg
  have ez : zv = zat ny 1 0 := ez
  rw [ez]
  clear ez
  refine lv_iload_n hX0 hB0 dX0_whereTo_117 rfl (lv_at hl 3 rfl) ?_
  refine z_imul (z := (zat ny 1 0) * X) CX dX0_whereTo_118 rfl ?_
  refine z_isub (z := ((zat nx 1 0) * Y) - ((zat ny 1 0) * X)) CX dX0_whereTo_119 rfl ?_
  refine lv_aload_n hX0 hB0 dX0_whereTo_120 rfl (lv_at hl 4 rfl) ?_
  refine z_get (Cn := RX0) (T := TX0) (N := 10) CX hW (v := .int (zI p)) hM.1 rfl (fun w h => List.mem_cons_of_mem _ (List.mem_append_left _ (List.mem_append_right _ h))) 9 (by decide) (List.mem_of_getElem? (i := 6) rfl) rfl rfl dX0_whereTo_121 ?_
  refine z_calli hW (va_runSN (As := [.int (zI (((zat nx 1 0) * Y) - ((zat ny 1 0) * X))), .int (zI p)]) (rest := [.int (zI (zinv (zdet nx ny p) p))]) CX.fix (c_mod l (f := f) (((zat nx 1 0) * Y) - ((zat ny 1 0) * X)) p (by constructor <;> omega) (by constructor <;> omega)) ⟨va_cnB (own := RX0) (host := "CurveMeets") (index := 51) 2 CX.fix.2.2.2.2 ggX0_whereTo_X11_mod rfl rfl rfl (CX.2.2.2.2.2.2.2.1 _ (by decide +kernel)) (CX.at (List.mem_of_getElem? (i := 22) rfl)) (by decide +kernel) ⟨Nat.le_of_ble_eq_true rfl, Nat.le_of_ble_eq_true rfl⟩, CX.at (List.mem_of_getElem? (i := 21) rfl), trivial⟩ (z_preS CX hW) rfl rfl hl.1 rfl (lv_room (Nat.le_of_ble_eq_true rfl)) dX0_whereTo_124 ⟨Nat.zero_le _, Nat.zero_le _⟩) (fun zv gn H locs hok124 hW => ?_)
  obtain ⟨ez, eg⟩ := hok124
  have eg : gn = f := eg
  rw [eg] at hW
  clear eg
  have ez : zv = (((zat nx 1 0) * Y) - ((zat ny 1 0) * X)) % p := ez
  rw [ez]
  clear ez
  have hm124 := zmr (((zat nx 1 0) * Y) - ((zat ny 1 0) * X)) (p := p) (by omega)
  have hl2 := zmul_rng (a := zinv (zdet nx ny p) p) (b := (zat nx 1 0 * Y - zat ny 1 0 * X) % p) (A := 31) (B := 31) (by omega) (by omega)
  refine z_imul (z := (zinv (zdet nx ny p) p) * ((((zat nx 1 0) * Y) - ((zat ny 1 0) * X)) % p)) CX dX0_whereTo_127 rfl ?_
  refine lv_aload_n hX0 hB0 dX0_whereTo_128 rfl (lv_at hl 4 rfl) ?_
  refine z_get (Cn := RX0) (T := TX0) (N := 10) CX hW (v := .int (zI p)) hM.1 rfl (fun w h => List.mem_cons_of_mem _ (List.mem_append_left _ (List.mem_append_right _ h))) 9 (by decide) (List.mem_of_getElem? (i := 6) rfl) rfl rfl dX0_whereTo_129 ?_
  refine z_calli hW (va_runSN (As := [.int (zI ((zinv (zdet nx ny p) p) * ((((zat nx 1 0) * Y) - ((zat ny 1 0) * X)) % p))), .int (zI p)]) (rest := []) CX.fix (c_mod l (f := f) ((zinv (zdet nx ny p) p) * ((((zat nx 1 0) * Y) - ((zat ny 1 0) * X)) % p)) p (by constructor <;> omega) (by constructor <;> omega)) ⟨va_cnB (own := RX0) (host := "CurveMeets") (index := 51) 2 CX.fix.2.2.2.2 ggX0_whereTo_X11_mod rfl rfl rfl (CX.2.2.2.2.2.2.2.1 _ (by decide +kernel)) (CX.at (List.mem_of_getElem? (i := 22) rfl)) (by decide +kernel) ⟨Nat.le_of_ble_eq_true rfl, Nat.le_of_ble_eq_true rfl⟩, CX.at (List.mem_of_getElem? (i := 21) rfl), trivial⟩ (z_preS CX hW) rfl rfl hl.1 rfl (lv_room (Nat.le_of_ble_eq_true rfl)) dX0_whereTo_132 ⟨Nat.zero_le _, Nat.zero_le _⟩) (fun zv gn H locs hok132 hW => ?_)
  obtain ⟨ez, eg⟩ := hok132
  have eg : gn = f := eg
  rw [eg] at hW
  clear eg
  have ez : zv = ((zinv (zdet nx ny p) p) * ((((zat nx 1 0) * Y) - ((zat ny 1 0) * X)) % p)) % p := ez
  rw [ez]
  clear ez
  have hm132 := zmr ((zinv (zdet nx ny p) p) * ((((zat nx 1 0) * Y) - ((zat ny 1 0) * X)) % p)) (p := p) (by omega)
  have hlp := zmul_rng (a := zinv (zdet nx ny p) p * ((zat ny 0 1 * X - zat nx 0 1 * Y) % p) % p) (b := p) (A := 31) (B := 31) (by omega) (by omega)
  refine lv_istore (lv' := [(6, .int (zI (((zinv (zdet nx ny p) p) * ((((zat nx 1 0) * Y) - ((zat ny 1 0) * X)) % p)) % p))), (5, .int (zI (((zinv (zdet nx ny p) p) * ((((zat ny 0 1) * X) - ((zat nx 0 1) * Y)) % p)) % p))), (4, .int (zI (zinv (zdet nx ny p) p))), (3, .int (zI Y)), (2, .int (zI X)), (0, .ref m), (1, .ref s)]) hX0 hB0 dX0_whereTo_135 hl (by decide) rfl (fun ls hl => ?_)
  refine lv_aload_n hX0 hB0 dX0_whereTo_137 rfl (lv_at hl 6 rfl) ?_
  refine z_get (Cn := RX9) (T := TX9) (N := 3) CX hW (v := .int (zI z)) hs0 rfl (fun w h => List.mem_cons_of_mem _ (List.mem_append_left _ (List.mem_append_left _ (List.mem_append_right _ h)))) 2 (by decide) (List.mem_of_getElem? (i := 2) rfl) rfl rfl dX0_whereTo_138 ?_
  refine lv_iconst (v := zI 1) hX0 hB0 dX0_whereTo_141 rfl ?_
  refine z_icmp_ne (tgt := 156) CX dX0_whereTo_142 (by decide) (by constructor <;> omega) (by constructor <;> omega) (fun c_142 => ?_) (fun c_142 => ?_)
  ·
    refine lv_iload hX0 hB0 dX0_whereTo_156 (lv_at hl 1 rfl) ?_
    refine z_if_ne (tgt := 176) CX dX0_whereTo_158 (by decide) (by constructor <;> omega) (fun c_158 => ?_) (fun c_158 => ?_)
    ·
      refine lv_aload_n hX0 hB0 dX0_whereTo_176 rfl (lv_at hl 5 rfl) ?_
      refine z_get (Cn := RX0) (T := TX0) (N := 10) CX hW (v := .int (zI p)) hM.1 rfl (fun w h => List.mem_cons_of_mem _ (List.mem_append_left _ (List.mem_append_right _ h))) 9 (by decide) (List.mem_of_getElem? (i := 6) rfl) rfl rfl dX0_whereTo_177 ?_
      refine lv_aload_n hX0 hB0 dX0_whereTo_180 rfl (lv_at hl 5 rfl) ?_
      refine z_get (Cn := RX0) (T := TX0) (N := 10) CX hW (v := .int (zI p)) hM.1 rfl (fun w h => List.mem_cons_of_mem _ (List.mem_append_left _ (List.mem_append_right _ h))) 9 (by decide) (List.mem_of_getElem? (i := 6) rfl) rfl rfl dX0_whereTo_181 ?_
      refine z_imul (z := p * p) CX dX0_whereTo_184 rfl ?_
      refine lv_iload hX0 hB0 dX0_whereTo_185 (lv_at hl 0 rfl) ?_
      refine lv_iload hX0 hB0 dX0_whereTo_187 (lv_at hl 1 rfl) ?_
      refine lv_aload_n hX0 hB0 dX0_whereTo_189 rfl (lv_at hl 5 rfl) ?_
      refine z_get (Cn := RX0) (T := TX0) (N := 10) CX hW (v := .int (zI p)) hM.1 rfl (fun w h => List.mem_cons_of_mem _ (List.mem_append_left _ (List.mem_append_right _ h))) 9 (by decide) (List.mem_of_getElem? (i := 6) rfl) rfl rfl dX0_whereTo_190 ?_
      refine z_calli hW (va_runSN (As := [.int (zI (((zinv (zdet nx ny p) p) * ((((zat ny 0 1) * X) - ((zat nx 0 1) * Y)) % p)) % p)), .int (zI p)]) (rest := [.int (zI (((zinv (zdet nx ny p) p) * ((((zat nx 1 0) * Y) - ((zat ny 1 0) * X)) % p)) % p)), .int (zI (p * p))]) CX.fix (c_inverse l (f := f) (((zinv (zdet nx ny p) p) * ((((zat ny 0 1) * X) - ((zat nx 0 1) * Y)) % p)) % p) p (by constructor <;> omega) (by constructor <;> omega)) ⟨va_cnB (own := RX0) (host := "CurveMeets") (index := 107) 2 CX.fix.2.2.2.2 ggX0_whereTo_X11_inverse rfl rfl rfl (CX.2.2.2.2.2.2.2.1 _ (by decide +kernel)) (CX.at (List.mem_of_getElem? (i := 22) rfl)) (by decide +kernel) ⟨Nat.le_of_ble_eq_true rfl, Nat.le_of_ble_eq_true rfl⟩, CX.at (List.mem_of_getElem? (i := 24) rfl), trivial⟩ (z_preS CX hW) rfl rfl hl.1 rfl (lv_room (Nat.le_of_ble_eq_true rfl)) dX0_whereTo_193 ⟨Nat.zero_le _, Nat.zero_le _⟩) (fun zv gn H locs hok193 hW => ?_)
      obtain ⟨ez, eg⟩ := hok193
      have eg : gn = f := eg
      rw [eg] at hW
      clear eg
      have ez : zv = zinv (((zinv (zdet nx ny p) p) * ((((zat ny 0 1) * X) - ((zat nx 0 1) * Y)) % p)) % p) p := ez
      rw [ez]
      clear ez
      have hinv193 := zinv_rng (((zinv (zdet nx ny p) p) * ((((zat ny 0 1) * X) - ((zat nx 0 1) * Y)) % p)) % p) (p := p) (by omega)
      have hlq := zmul_rng (a := zinv (zdet nx ny p) p * ((zat nx 1 0 * Y - zat ny 1 0 * X) % p) % p) (b := zinv (zinv (zdet nx ny p) p * ((zat ny 0 1 * X - zat nx 0 1 * Y) % p) % p) p) (A := 31) (B := 31) (by omega) (by omega)
      refine z_imul (z := (((zinv (zdet nx ny p) p) * ((((zat nx 1 0) * Y) - ((zat ny 1 0) * X)) % p)) % p) * (zinv (((zinv (zdet nx ny p) p) * ((((zat ny 0 1) * X) - ((zat nx 0 1) * Y)) % p)) % p) p)) CX dX0_whereTo_196 rfl ?_
      refine lv_aload_n hX0 hB0 dX0_whereTo_197 rfl (lv_at hl 5 rfl) ?_
      refine z_get (Cn := RX0) (T := TX0) (N := 10) CX hW (v := .int (zI p)) hM.1 rfl (fun w h => List.mem_cons_of_mem _ (List.mem_append_left _ (List.mem_append_right _ h))) 9 (by decide) (List.mem_of_getElem? (i := 6) rfl) rfl rfl dX0_whereTo_198 ?_
      refine z_calli hW (va_runSN (As := [.int (zI ((((zinv (zdet nx ny p) p) * ((((zat nx 1 0) * Y) - ((zat ny 1 0) * X)) % p)) % p) * (zinv (((zinv (zdet nx ny p) p) * ((((zat ny 0 1) * X) - ((zat nx 0 1) * Y)) % p)) % p) p))), .int (zI p)]) (rest := [.int (zI (p * p))]) CX.fix (c_mod l (f := f) ((((zinv (zdet nx ny p) p) * ((((zat nx 1 0) * Y) - ((zat ny 1 0) * X)) % p)) % p) * (zinv (((zinv (zdet nx ny p) p) * ((((zat ny 0 1) * X) - ((zat nx 0 1) * Y)) % p)) % p) p)) p (by constructor <;> omega) (by constructor <;> omega)) ⟨va_cnB (own := RX0) (host := "CurveMeets") (index := 51) 2 CX.fix.2.2.2.2 ggX0_whereTo_X11_mod rfl rfl rfl (CX.2.2.2.2.2.2.2.1 _ (by decide +kernel)) (CX.at (List.mem_of_getElem? (i := 22) rfl)) (by decide +kernel) ⟨Nat.le_of_ble_eq_true rfl, Nat.le_of_ble_eq_true rfl⟩, CX.at (List.mem_of_getElem? (i := 21) rfl), trivial⟩ (z_preS CX hW) rfl rfl hl.1 rfl (lv_room (Nat.le_of_ble_eq_true rfl)) dX0_whereTo_201 ⟨Nat.zero_le _, Nat.zero_le _⟩) (fun zv gn H locs hok201 hW => ?_)
      obtain ⟨ez, eg⟩ := hok201
      have eg : gn = f := eg
      rw [eg] at hW
      clear eg
      have ez : zv = ((((zinv (zdet nx ny p) p) * ((((zat nx 1 0) * Y) - ((zat ny 1 0) * X)) % p)) % p) * (zinv (((zinv (zdet nx ny p) p) * ((((zat ny 0 1) * X) - ((zat nx 0 1) * Y)) % p)) % p) p)) % p := ez
      rw [ez]
      clear ez
      have hm201 := zmr ((((zinv (zdet nx ny p) p) * ((((zat nx 1 0) * Y) - ((zat ny 1 0) * X)) % p)) % p) * (zinv (((zinv (zdet nx ny p) p) * ((((zat ny 0 1) * X) - ((zat nx 0 1) * Y)) % p)) % p) p)) (p := p) (by omega)
      refine z_iadd (z := (p * p) + (((((zinv (zdet nx ny p) p) * ((((zat nx 1 0) * Y) - ((zat ny 1 0) * X)) % p)) % p) * (zinv (((zinv (zdet nx ny p) p) * ((((zat ny 0 1) * X) - ((zat nx 0 1) * Y)) % p)) % p) p)) % p)) CX dX0_whereTo_204 rfl ?_
      rw [← hQ]
      exact z_iret (z := (p * p) + (((((zinv (zdet nx ny p) p) * ((((zat nx 1 0) * Y) - ((zat ny 1 0) * X)) % p)) % p) * (zinv (((zinv (zdet nx ny p) p) * ((((zat ny 0 1) * X) - ((zat nx 0 1) * Y)) % p)) % p) p)) % p)) CX hW (by exact ⟨by unfold zwh zwhP; rw [if_neg c_142, ← hX, ← hY, if_neg (show ¬ zwhL nx ny p X Y = 0 from c_158)]; rfl, rfl⟩) rfl dX0_whereTo_205
    ·
      refine lv_aload_n hX0 hB0 dX0_whereTo_161 rfl (lv_at hl 5 rfl) ?_
      refine z_get (Cn := RX0) (T := TX0) (N := 10) CX hW (v := .int (zI p)) hM.1 rfl (fun w h => List.mem_cons_of_mem _ (List.mem_append_left _ (List.mem_append_right _ h))) 9 (by decide) (List.mem_of_getElem? (i := 6) rfl) rfl rfl dX0_whereTo_162 ?_
      refine lv_aload_n hX0 hB0 dX0_whereTo_165 rfl (lv_at hl 5 rfl) ?_
      refine z_get (Cn := RX0) (T := TX0) (N := 10) CX hW (v := .int (zI p)) hM.1 rfl (fun w h => List.mem_cons_of_mem _ (List.mem_append_left _ (List.mem_append_right _ h))) 9 (by decide) (List.mem_of_getElem? (i := 6) rfl) rfl rfl dX0_whereTo_166 ?_
      refine z_imul (z := p * p) CX dX0_whereTo_169 rfl ?_
      refine lv_aload_n hX0 hB0 dX0_whereTo_170 rfl (lv_at hl 5 rfl) ?_
      refine z_get (Cn := RX0) (T := TX0) (N := 10) CX hW (v := .int (zI p)) hM.1 rfl (fun w h => List.mem_cons_of_mem _ (List.mem_append_left _ (List.mem_append_right _ h))) 9 (by decide) (List.mem_of_getElem? (i := 6) rfl) rfl rfl dX0_whereTo_171 ?_
      refine z_iadd (z := (p * p) + p) CX dX0_whereTo_174 rfl ?_
      rw [← hQ]
      exact z_iret (z := (p * p) + p) CX hW (by exact ⟨by unfold zwh zwhP; rw [if_neg c_142, ← hX, ← hY, if_pos (show zwhL nx ny p X Y = 0 from c_158)], rfl⟩) rfl dX0_whereTo_175
  ·
    refine lv_iload hX0 hB0 dX0_whereTo_145 (lv_at hl 1 rfl) ?_
    refine lv_aload_n hX0 hB0 dX0_whereTo_147 rfl (lv_at hl 5 rfl) ?_
    refine z_get (Cn := RX0) (T := TX0) (N := 10) CX hW (v := .int (zI p)) hM.1 rfl (fun w h => List.mem_cons_of_mem _ (List.mem_append_left _ (List.mem_append_right _ h))) 9 (by decide) (List.mem_of_getElem? (i := 6) rfl) rfl rfl dX0_whereTo_148 ?_
    refine z_imul (z := (((zinv (zdet nx ny p) p) * ((((zat ny 0 1) * X) - ((zat nx 0 1) * Y)) % p)) % p) * p) CX dX0_whereTo_151 rfl ?_
    refine lv_iload hX0 hB0 dX0_whereTo_152 (lv_at hl 0 rfl) ?_
    refine z_iadd (z := ((((zinv (zdet nx ny p) p) * ((((zat ny 0 1) * X) - ((zat nx 0 1) * Y)) % p)) % p) * p) + (((zinv (zdet nx ny p) p) * ((((zat nx 1 0) * Y) - ((zat ny 1 0) * X)) % p)) % p)) CX dX0_whereTo_154 rfl ?_
    rw [← hQ]
    exact z_iret (z := ((((zinv (zdet nx ny p) p) * ((((zat ny 0 1) * X) - ((zat nx 0 1) * Y)) % p)) % p) * p) + (((zinv (zdet nx ny p) p) * ((((zat nx 1 0) * Y) - ((zat ny 1 0) * X)) % p)) % p)) CX hW (by exact ⟨by unfold zwh zwhP; rw [if_pos c_142, ← hX, ← hY]; rfl, rfl⟩) rfl dX0_whereTo_155
end ZMk
