section ZPq
theorem zforD_t {σ : Type} (step : Int → σ → σ) (b : Int) (s0 : σ) {i : Int} (h : i ≤ b) : zforD step b s0 (b - (i + -1)).toNat = step i (zforD step b s0 (b - i).toNat) := by
  rw [show i + -1 = i - 1 by omega]
  exact zforD_s step b s0 h
theorem zforD_0 {σ : Type} (step : Int → σ → σ) (b : Int) (s0 : σ) {i : Int} (h : b ≤ i) : zforD step b s0 (b - i).toNat = s0 := by
  rw [show (b - i).toNat = 0 by omega]
  rfl
theorem zforD_inv {σ : Type} {step : Int → σ → σ} {a : Int} {s0 : σ} (I : σ → Prop) (h0 : I s0) (hs : ∀ i x, I x → I (step i x)) : ∀ k, I (zforD step a s0 k)
  | 0 => h0
  | k + 1 => hs _ _ (zforD_inv I h0 hs k)
/-- what comes of a division, and what is left of the other one -/
def zquo_in (e : Nat → Int) (v lx lo p d : Int) : Int → (Nat → Int) × (Nat → Int) → (Nat → Int) × (Nat → Int) := fun i s => (zput s.1 i (d - i) (v * zat s.2 (lx + i) (lo - lx + (d - i)) % p), zaddS s.2 e i (d - i) (p - v * zat s.2 (lx + i) (lo - lx + (d - i)) % p) p)
def zquo_out (e : Nat → Int) (v lx lo p : Int) : Int → (Nat → Int) × (Nat → Int) → (Nat → Int) × (Nat → Int) := fun d s => zforD (zquo_in e v lx lo p d) d s (d - -1).toNat
def zquoL (e r : Nat → Int) (p lo lx : Int) : (Nat → Int) × (Nat → Int) := zforD (zquo_out e (zinv (zat e lx (lo - lx)) p) lx lo p) (ztop r - lo) (zone 0, r) (ztop r - lo - -1).toNat
def zquo (e r : Nat → Int) (p : Int) : (Nat → Int) × (Nat → Int) := zquoL e r p (ztop e) (zlead e (ztop e))
/-- the first TERM gets 1 -/
def znorm (c : Nat → Int) (p : Int) : Nat → Int := fun k => c k * zinv (zat c (zlead c (ztop c)) (ztop c - zlead c (ztop c))) p % p
theorem znorm_can (c : Nat → Int) {p : Int} (hp : 0 < p) : zcan p (znorm c p) := fun k => zmr _ hp
theorem zup_step {c b q : Nat → Int} {k x : Int} (h : ∀ j : Nat, (j : Int) < k → c j = q j) (hk : 0 ≤ k) (hx : x = q k.toNat) : ∀ j : Nat, (j : Int) < k + 1 → zup c k.toNat x j = q j := by
  intro j hj
  unfold zup
  by_cases e : j = k.toNat
  · rw [if_pos e, hx, e]
  · rw [if_neg e]
    exact h j (by omega)
theorem zup_rest {c b : Nat → Int} {k x : Int} (h : ∀ j : Nat, k ≤ (j : Int) → c j = b j) (hk : 0 ≤ k) : ∀ j : Nat, k + 1 ≤ (j : Int) → zup c k.toNat x j = b j := by
  intro j hj
  unfold zup
  rw [if_neg (by omega)]
  exact h j (by omega)
set_option maxRecDepth 100000 in
set_option maxHeartbeats 4000000 in
/-- Poly.add -/
theorem c_add (l : Launch) {D : va_G} {cI cJ cZ cP cS cM : ClassId} {L : List Nat} {sz : Nat} {f : Nat → va_E} (h0 h : Nat) (c : Nat → Int) (h1 ha : Nat) (d : Nat → Int) (o p : Int) (hf0 : f h0 = .inr (2, [.ref h])) (hf1 : f h = zA cI 25 c) (hg0 : f h1 = .inr (2, [.ref ha])) (hg1 : f ha = zA cI 25 d) (hne : h ≠ ha) (hc : zcan 31 c) (hd : zcan 31 d) (ho : 0 ≤ o ∧ o ≤ 31) (hp : 2 ≤ p ∧ p ≤ 31) : zMv l yX2_add wsX2_add 1 30 D (zT cI cJ cZ cP cS cM) L sz f [.ref h0, .ref h1, .int (zI o), .int (zI p)] (fun g => g = va_up f h (zA cI 25 (zaddS c d 0 0 o p))) := by
  refine zWalk.met (nL := 4) (ret := none) (cc := cX2_add) (by decide) rfl (Nat.le_of_ble_eq_true rfl) ?_
  intro pg en st mi ag bl mt cd ls CX hW hl
  have CX : zC pg st mi ag mt cd cX2_add 4 none RX2 wsX2_add := CX
  generalize hQ : MQ bl _ ag st 0 0 _ = Q
  have hX0 := CX.1
  have hB0 := CX.2.1
  have hl : lv_has ls 4 [(0, .ref h0), (1, .ref h1), (2, .int (zI o)), (3, .int (zI p))] := hl
  obtain ⟨H, eH⟩ : ∃ H, H = st.heap := ⟨_, rfl⟩
  obtain ⟨locs, eL⟩ : ∃ L : List Loc, L = [] := ⟨_, rfl⟩
  have hW : zW D (zT cI cJ cZ cP cS cM) L (zQ L sz) st f st.heap H locs := by rw [eH, eL]; exact hW
  suffices hgo : W pg l en ({ frames := 1, cells := 0, slots := 0, locals := 30 } : Room) st mi ag bl mt cd H locs 0 0 Q (F0 mi 0 ls []) by rw [eH, eL] at hgo; exact hgo
  clear eH eL
  refine lv_aload_n hX0 hB0 dX2_add_0 rfl (lv_at hl 0 rfl) ?_
  refine lv_aload_n hX0 hB0 dX2_add_1 rfl (lv_at hl 1 rfl) ?_
  refine lv_iconst (v := zI 0) hX0 hB0 dX2_add_2 rfl ?_
  refine lv_iconst (v := zI 0) hX0 hB0 dX2_add_3 rfl ?_
  refine lv_iload_n hX0 hB0 dX2_add_4 rfl (lv_at hl 2 rfl) ?_
  refine lv_iload_n hX0 hB0 dX2_add_5 rfl (lv_at hl 3 rfl) ?_
  refine z_callv hW (va_runV (C := RX2) (As := [.ref h1, .int (zI 0), .int (zI 0), .int (zI o), .int (zI p)]) (rest := []) CX.fix (c_addShifted l (f := f) h0 h c h1 ha d 0 0 o p hf0 hf1 hg0 hg1 hne (by first | assumption | exact zcan_le (by assumption) (by omega)) (by first | assumption | exact zcan_le (by assumption) (by omega)) (by constructor <;> omega) (by constructor <;> omega) (by constructor <;> omega) (by constructor <;> omega)) (cwV 5 CX.fix.2.2.2.2 gX2_add_X2_addShifted rfl rfl rfl (by decide +kernel) ⟨Nat.le_of_ble_eq_true rfl, Nat.le_of_ble_eq_true rfl⟩) (z_preV CX hW (r := (RX2, TX2, 1)) hf0 rfl) rfl rfl hl.1 rfl (lv_room (Nat.le_of_ble_eq_true rfl)) dX2_add_6 ⟨Nat.zero_le _, Nat.zero_le _⟩) (fun gn H locs hok6 hW => ?_)
  have eg : gn = va_up f h (zA cI 25 (zaddS c d 0 0 o p)) := hok6
  rw [eg] at hW
  clear eg
  rw [← hQ]
  exact z_vret CX hW (by rfl) dX2_add_9
set_option maxRecDepth 100000 in
set_option maxHeartbeats 4000000 in
/-- Poly.quotient -/
theorem c_quotient (l : Launch) {D : va_G} {cI cJ cZ cP cS cM : ClassId} {L : List Nat} {sz : Nat} {f : Nat → va_E} (h0 h : Nat) (c : Nat → Int) (h1 ha : Nat) (r : Nat → Int) (h2 hb : Nat) (e : Nat → Int) (p : Int) (hf0 : f h0 = .inr (2, [.ref h])) (hf1 : f h = zA cI 25 c) (hg0 : f h1 = .inr (2, [.ref ha])) (hg1 : f ha = zA cI 25 r) (hk0 : f h2 = .inr (2, [.ref hb])) (hk1 : f hb = zA cI 25 e) (hna : h ≠ ha) (hnb : h ≠ hb) (hnc : ha ≠ hb) (hr : zcan 31 r) (he : zcan 31 e) (hp : 2 ≤ p ∧ p ≤ 31) : zMv l yX2_quotient wsX2_quotient 2 44 D (zT cI cJ cZ cP cS cM) L sz f [.ref h0, .ref h1, .ref h2, .int (zI p)] (fun g => g = va_up (va_up f h (zA cI 25 (zquo e r p).1)) ha (zA cI 25 (zquo e r p).2)) := by
  refine zWalk.met (nL := 11) (ret := none) (cc := cX2_quotient) (by decide) rfl (Nat.le_of_ble_eq_true rfl) ?_
  intro pg en st mi ag bl mt cd ls CX hW hl
  have CX : zC pg st mi ag mt cd cX2_quotient 11 none RX2 wsX2_quotient := CX
  generalize hQ : MQ bl _ ag st 0 0 _ = Q
  have hX0 := CX.1
  have hB0 := CX.2.1
  have hl : lv_has ls 11 [(0, .ref h0), (1, .ref h1), (2, .ref h2), (3, .int (zI p))] := hl
  obtain ⟨H, eH⟩ : ∃ H, H = st.heap := ⟨_, rfl⟩
  obtain ⟨locs, eL⟩ : ∃ L : List Loc, L = [] := ⟨_, rfl⟩
  have hW : zW D (zT cI cJ cZ cP cS cM) L (zQ L sz) st f st.heap H locs := by rw [eH, eL]; exact hW
  suffices hgo : W pg l en ({ frames := 2, cells := 0, slots := 0, locals := 44 } : Room) st mi ag bl mt cd H locs 0 0 Q (F0 mi 0 ls []) by rw [eH, eL] at hgo; exact hgo
  clear eH eL
  refine lv_aload_n hX0 hB0 dX2_quotient_0 rfl (lv_at hl 0 rfl) ?_
  refine lv_iconst (v := zI 0) hX0 hB0 dX2_quotient_1 rfl ?_
  refine z_callv hW (va_runV (C := RX2) (As := [.int (zI 0)]) (rest := []) CX.fix (c_setTo l (f := f) h0 h c 0 hf0 hf1) (cwV 1 CX.fix.2.2.2.2 gX2_quotient_X2_setTo rfl rfl rfl (by decide +kernel) ⟨Nat.le_of_ble_eq_true rfl, Nat.le_of_ble_eq_true rfl⟩) (z_preV CX hW (r := (RX2, TX2, 1)) hf0 rfl) rfl rfl hl.1 rfl (lv_room (Nat.le_of_ble_eq_true rfl)) dX2_quotient_2 ⟨Nat.zero_le _, Nat.zero_le _⟩) (fun gn H locs hok2 hW => ?_)
  have eg : gn = va_up f h (zA cI 25 (zone 0)) := hok2
  rw [eg] at hW
  clear eg
  refine lv_aload_n hX0 hB0 dX2_quotient_5 rfl (lv_at hl 2 rfl) ?_
  refine z_calli hW (va_runV (C := RX2) (As := []) (rest := []) CX.fix (c_top l (f := va_up f h (zA cI 25 (zone 0))) h2 hb e ((va_up_ne _ _ (zne hk0 hf1 zoi)).trans hk0) ((va_up_ne _ _ (Ne.symm hnb)).trans hk1) (by first | assumption | exact zcan_le (by assumption) (by omega))) (cwV 0 CX.fix.2.2.2.2 gX2_quotient_X2_top rfl rfl rfl (by decide +kernel) ⟨Nat.le_of_ble_eq_true rfl, Nat.le_of_ble_eq_true rfl⟩) (z_preV CX hW (r := (RX2, TX2, 1)) ((va_up_ne _ _ (zne hk0 hf1 zoi)).trans hk0) rfl) rfl rfl hl.1 rfl (lv_room (Nat.le_of_ble_eq_true rfl)) dX2_quotient_6 ⟨Nat.zero_le _, Nat.zero_le _⟩) (fun zv gn H locs hok6 hW => ?_)
  obtain ⟨ez, eg⟩ := hok6
  have eg : gn = va_up f h (zA cI 25 (zone 0)) := eg
  rw [eg] at hW
  clear eg
  have ez : zv = ztop e := ez
  rw [ez]
  clear ez
  have htp6 := ztop_rng e
  refine lv_istore (lv' := [(4, .int (zI (ztop e))), (0, .ref h0), (1, .ref h1), (2, .ref h2), (3, .int (zI p))]) hX0 hB0 dX2_quotient_9 hl (by decide) rfl (fun ls hl => ?_)
  refine lv_aload_n hX0 hB0 dX2_quotient_11 rfl (lv_at hl 3 rfl) ?_
  refine lv_iload hX0 hB0 dX2_quotient_12 (lv_at hl 0 rfl) ?_
  refine z_calli hW (va_runV (C := RX2) (As := [.int (zI (ztop e))]) (rest := []) CX.fix (c_leadAt l (f := va_up f h (zA cI 25 (zone 0))) h2 hb e (ztop e) ((va_up_ne _ _ (zne hk0 hf1 zoi)).trans hk0) ((va_up_ne _ _ (Ne.symm hnb)).trans hk1) (by first | assumption | exact zcan_le (by assumption) (by omega)) (by constructor <;> omega)) (cwV 1 CX.fix.2.2.2.2 gX2_quotient_X2_leadAt rfl rfl rfl (by decide +kernel) ⟨Nat.le_of_ble_eq_true rfl, Nat.le_of_ble_eq_true rfl⟩) (z_preV CX hW (r := (RX2, TX2, 1)) ((va_up_ne _ _ (zne hk0 hf1 zoi)).trans hk0) rfl) rfl rfl hl.1 rfl (lv_room (Nat.le_of_ble_eq_true rfl)) dX2_quotient_14 ⟨Nat.zero_le _, Nat.zero_le _⟩) (fun zv gn H locs hok14 hW => ?_)
  obtain ⟨ez, eg⟩ := hok14
  have eg : gn = va_up f h (zA cI 25 (zone 0)) := eg
  rw [eg] at hW
  clear eg
  have ez : zv = zlead e (ztop e) := ez
  rw [ez]
  clear ez
  have hld14 := zlead_rng e (ztop e) (by omega)
  refine lv_istore (lv' := [(5, .int (zI (zlead e (ztop e)))), (4, .int (zI (ztop e))), (0, .ref h0), (1, .ref h1), (2, .ref h2), (3, .int (zI p))]) hX0 hB0 dX2_quotient_17 hl (by decide) rfl (fun ls hl => ?_)
  refine lv_aload_n hX0 hB0 dX2_quotient_19 rfl (lv_at hl 4 rfl) ?_
  refine lv_iload hX0 hB0 dX2_quotient_20 (lv_at hl 0 rfl) ?_
  refine lv_iload hX0 hB0 dX2_quotient_22 (lv_at hl 1 rfl) ?_
  refine lv_iload hX0 hB0 dX2_quotient_24 (lv_at hl 0 rfl) ?_
  refine z_isub (z := (ztop e) - (zlead e (ztop e))) CX dX2_quotient_26 rfl ?_
  refine z_calli hW (va_runV (C := RX2) (As := [.int (zI (zlead e (ztop e))), .int (zI ((ztop e) - (zlead e (ztop e))))]) (rest := []) CX.fix (c_at l (f := va_up f h (zA cI 25 (zone 0))) h2 hb e (zlead e (ztop e)) ((ztop e) - (zlead e (ztop e))) ((va_up_ne _ _ (zne hk0 hf1 zoi)).trans hk0) ((va_up_ne _ _ (Ne.symm hnb)).trans hk1) (by constructor <;> omega) (by constructor <;> omega)) (cwV 2 CX.fix.2.2.2.2 gX2_quotient_X2_at rfl rfl rfl (by decide +kernel) ⟨Nat.le_of_ble_eq_true rfl, Nat.le_of_ble_eq_true rfl⟩) (z_preV CX hW (r := (RX2, TX2, 1)) ((va_up_ne _ _ (zne hk0 hf1 zoi)).trans hk0) rfl) rfl rfl hl.1 rfl (lv_room (Nat.le_of_ble_eq_true rfl)) dX2_quotient_27 ⟨Nat.zero_le _, Nat.zero_le _⟩) (fun zv gn H locs hok27 hW => ?_)
  obtain ⟨ez, eg⟩ := hok27
  have eg : gn = va_up f h (zA cI 25 (zone 0)) := eg
  rw [eg] at hW
  clear eg
  have ez : zv = zat e (zlead e (ztop e)) ((ztop e) - (zlead e (ztop e))) := ez
  rw [ez]
  clear ez
  have hat := zat_can (p := 31) (by omega) he (zlead e (ztop e)) (ztop e - zlead e (ztop e))
  refine lv_iload_n hX0 hB0 dX2_quotient_30 rfl (lv_at hl 5 rfl) ?_
  refine z_calli hW (va_runSN (As := [.int (zI (zat e (zlead e (ztop e)) ((ztop e) - (zlead e (ztop e))))), .int (zI p)]) (rest := []) CX.fix (c_inverse l (f := va_up f h (zA cI 25 (zone 0))) (zat e (zlead e (ztop e)) ((ztop e) - (zlead e (ztop e)))) p (by constructor <;> omega) (by constructor <;> omega)) ⟨va_cnB (own := RX2) (host := "CurveMeets") (index := 60) 2 CX.fix.2.2.2.2 ggX2_quotient_X11_inverse rfl rfl rfl (CX.2.2.2.2.2.2.2.1 _ (by decide +kernel)) (CX.at (List.mem_of_getElem? (i := 30) rfl)) (by decide +kernel) ⟨Nat.le_of_ble_eq_true rfl, Nat.le_of_ble_eq_true rfl⟩, CX.at (List.mem_of_getElem? (i := 29) rfl), trivial⟩ (z_preS CX hW) rfl rfl hl.1 rfl (lv_room (Nat.le_of_ble_eq_true rfl)) dX2_quotient_31 ⟨Nat.zero_le _, Nat.zero_le _⟩) (fun zv gn H locs hok31 hW => ?_)
  obtain ⟨ez, eg⟩ := hok31
  have eg : gn = va_up f h (zA cI 25 (zone 0)) := eg
  rw [eg] at hW
  clear eg
  have ez : zv = zinv (zat e (zlead e (ztop e)) ((ztop e) - (zlead e (ztop e)))) p := ez
  rw [ez]
  clear ez
  have hinv31 := zinv_rng (zat e (zlead e (ztop e)) ((ztop e) - (zlead e (ztop e)))) (p := p) (by omega)
  refine lv_istore (lv' := [(6, .int (zI (zinv (zat e (zlead e (ztop e)) ((ztop e) - (zlead e (ztop e)))) p))), (5, .int (zI (zlead e (ztop e)))), (4, .int (zI (ztop e))), (0, .ref h0), (1, .ref h1), (2, .ref h2), (3, .int (zI p))]) hX0 hB0 dX2_quotient_34 hl (by decide) rfl (fun ls hl => ?_)
  refine lv_aload_n hX0 hB0 dX2_quotient_36 rfl (lv_at hl 4 rfl) ?_
  refine z_calli hW (va_runV (C := RX2) (As := []) (rest := []) CX.fix (c_top l (f := va_up f h (zA cI 25 (zone 0))) h1 ha r ((va_up_ne _ _ (zne hg0 hf1 zoi)).trans hg0) ((va_up_ne _ _ (Ne.symm hna)).trans hg1) (by first | assumption | exact zcan_le (by assumption) (by omega))) (cwV 0 CX.fix.2.2.2.2 gX2_quotient_X2_top rfl rfl rfl (by decide +kernel) ⟨Nat.le_of_ble_eq_true rfl, Nat.le_of_ble_eq_true rfl⟩) (z_preV CX hW (r := (RX2, TX2, 1)) ((va_up_ne _ _ (zne hg0 hf1 zoi)).trans hg0) rfl) rfl rfl hl.1 rfl (lv_room (Nat.le_of_ble_eq_true rfl)) dX2_quotient_37 ⟨Nat.zero_le _, Nat.zero_le _⟩) (fun zv gn H locs hok37 hW => ?_)
  obtain ⟨ez, eg⟩ := hok37
  have eg : gn = va_up f h (zA cI 25 (zone 0)) := eg
  rw [eg] at hW
  clear eg
  have ez : zv = ztop r := ez
  rw [ez]
  clear ez
  have htp37 := ztop_rng r
  refine lv_iload hX0 hB0 dX2_quotient_40 (lv_at hl 2 rfl) ?_
  refine z_isub (z := (ztop r) - (ztop e)) CX dX2_quotient_42 rfl ?_
  refine lv_istore (lv' := [(7, .int (zI ((ztop r) - (ztop e)))), (6, .int (zI (zinv (zat e (zlead e (ztop e)) ((ztop e) - (zlead e (ztop e)))) p))), (5, .int (zI (zlead e (ztop e)))), (4, .int (zI (ztop e))), (0, .ref h0), (1, .ref h1), (2, .ref h2), (3, .int (zI p))]) hX0 hB0 dX2_quotient_43 hl (by decide) rfl (fun ls hl => ?_)
  have hL45 : ∀ (fu : Nat) (d : Int) (cq : Nat → Int) (cr : Nat → Int) (v : Int) (lo : Int) (lx : Int), (lo = ztop e ∧ lx = zlead e lo ∧ v = zinv (zat e lx (lo - lx)) p ∧ d ≤ ztop r - lo ∧ (-1 ≤ d ∨ d = ztop r - lo) ∧ -100 ≤ d ∧ (cq, cr) = zforD (zquo_out e v lx lo p) (ztop r - lo) (zone 0, r) (ztop r - lo - d).toNat ∧ zcan 31 cr) → (d + 200).toNat < fu → ∀ (H : Heap) (locs : List Loc) (ls : Array Slot), zW D (zT cI cJ cZ cP cS cM) L (zQ L sz) st (va_up (va_up f h (zA cI 25 cq)) ha (zA cI 25 cr)) st.heap H locs → lv_has ls 11 [(7, .int (zI d)), (6, .int (zI v)), (4, .int (zI lo)), (5, .int (zI lx)), (0, .ref h0), (1, .ref h1), (2, .ref h2), (3, .int (zI p))] → W pg l en ({ frames := 2, cells := 0, slots := 0, locals := 44 } : Room) st mi ag bl mt cd H locs 0 0 Q (F0 mi 45 ls []) := by
    intro fu
    induction fu with
    | zero => intro d cq cr v lo lx _ hfu; exact absurd hfu (Nat.not_lt_zero _)
    | succ fu ih45 =>
      intro d cq cr v lo lx hinv45 hfu45 H locs ls hW hl
      obtain ⟨elo, elx, ev, hd1, hd0, hdm, hst, hcr⟩ := hinv45
      have hlo := ztop_rng e
      rw [← elo] at hlo
      have hlx := zlead_rng e lo (by omega)
      rw [← elx] at hlx
      have hv := zinv_rng (zat e lx (lo - lx)) (p := p) (by omega)
      rw [← ev] at hv
      have hrt := ztop_rng r
      refine lv_iload hX0 hB0 dX2_quotient_45 (lv_at hl 0 rfl) ?_
      refine z_if_lt (tgt := 128) CX dX2_quotient_47 (by decide) (by constructor <;> omega) (fun c_47 => ?_) (fun c_47 => ?_)
      ·
        rw [← hQ]
        refine z_vret CX hW ?_ dX2_quotient_128
        have hz : zquo e r p = (cq, cr) := by unfold zquo zquoL; rw [hst, ← elo, ← elx, ← ev]; congr 1; omega
        rw [hz]
      ·
        refine lv_iload hX0 hB0 dX2_quotient_50 (lv_at hl 0 rfl) ?_
        refine lv_istore (lv' := [(8, .int (zI d)), (7, .int (zI d)), (6, .int (zI v)), (4, .int (zI lo)), (5, .int (zI lx)), (0, .ref h0), (1, .ref h1), (2, .ref h2), (3, .int (zI p))]) hX0 hB0 dX2_quotient_52 hl (by decide) rfl (fun ls hl => ?_)
        have hL54 : ∀ (fu : Nat) (i : Int) (cp : Nat → Int) (cs : Nat → Int), (-1 ≤ i ∧ i ≤ d ∧ (cp, cs) = zforD (zquo_in e v lx lo p d) d (cq, cr) (d - i).toNat ∧ zcan 31 cs) → (i + 1).toNat < fu → ∀ (H : Heap) (locs : List Loc) (ls : Array Slot), zW D (zT cI cJ cZ cP cS cM) L (zQ L sz) st (va_up (va_up f h (zA cI 25 cp)) ha (zA cI 25 cs)) st.heap H locs → lv_has ls 11 [(8, .int (zI i)), (7, .int (zI d)), (6, .int (zI v)), (4, .int (zI lo)), (5, .int (zI lx)), (0, .ref h0), (1, .ref h1), (2, .ref h2), (3, .int (zI p))] → W pg l en ({ frames := 2, cells := 0, slots := 0, locals := 44 } : Room) st mi ag bl mt cd H locs 0 0 Q (F0 mi 54 ls []) := by
          intro fu
          induction fu with
          | zero => intro i cp cs _ hfu; exact absurd hfu (Nat.not_lt_zero _)
          | succ fu ih54 =>
            intro i cp cs hinv54 hfu54 H locs ls hW hl
            obtain ⟨hi0, hi1, hin, hci⟩ := hinv54
            refine lv_iload hX0 hB0 dX2_quotient_54 (lv_at hl 0 rfl) ?_
            refine z_if_lt (tgt := 122) CX dX2_quotient_56 (by decide) (by constructor <;> omega) (fun c_56 => ?_) (fun c_56 => ?_)
            ·
              refine lv_iinc (v := zI (d + (-1))) (lv' := [(7, .int (zI (d + (-1)))), (8, .int (zI i)), (6, .int (zI v)), (4, .int (zI lo)), (5, .int (zI lx)), (0, .ref h0), (1, .ref h1), (2, .ref h2), (3, .int (zI p))]) hX0 hB0 dX2_quotient_122 hl (k := 1) rfl (zI_add _ _) (by decide) rfl (fun ls hl => ?_)
              refine lv_goto (tgt := 45) hX0 hB0 dX2_quotient_125 (by decide) ?_
              exact ih45 (d + (-1)) cp cs v lo lx ⟨elo, elx, ev, by omega, by omega, by omega, by rw [zforD_t _ _ _ hd1, ← hst, hin]; unfold zquo_out; rw [show i = -1 by omega], hci⟩ (by omega) H locs ls hW (lv_sub hl [0, 2, 3, 4, 5, 6, 7, 8] rfl)
            ·
              refine lv_iload hX0 hB0 dX2_quotient_59 (lv_at hl 1 rfl) ?_
              refine lv_iload hX0 hB0 dX2_quotient_61 (lv_at hl 0 rfl) ?_
              refine z_isub (z := d - i) CX dX2_quotient_63 rfl ?_
              refine lv_istore (lv' := [(9, .int (zI (d - i))), (8, .int (zI i)), (7, .int (zI d)), (6, .int (zI v)), (4, .int (zI lo)), (5, .int (zI lx)), (0, .ref h0), (1, .ref h1), (2, .ref h2), (3, .int (zI p))]) hX0 hB0 dX2_quotient_64 hl (by decide) rfl (fun ls hl => ?_)
              refine lv_iload hX0 hB0 dX2_quotient_66 (lv_at hl 3 rfl) ?_
              refine lv_aload_n hX0 hB0 dX2_quotient_68 rfl (lv_at hl 7 rfl) ?_
              refine lv_iload hX0 hB0 dX2_quotient_69 (lv_at hl 5 rfl) ?_
              refine lv_iload hX0 hB0 dX2_quotient_71 (lv_at hl 1 rfl) ?_
              refine z_iadd (z := lx + i) CX dX2_quotient_73 rfl ?_
              refine lv_iload hX0 hB0 dX2_quotient_74 (lv_at hl 4 rfl) ?_
              refine lv_iload hX0 hB0 dX2_quotient_76 (lv_at hl 5 rfl) ?_
              refine z_isub (z := lo - lx) CX dX2_quotient_78 rfl ?_
              refine lv_iload hX0 hB0 dX2_quotient_79 (lv_at hl 0 rfl) ?_
              refine z_iadd (z := (lo - lx) + (d - i)) CX dX2_quotient_81 rfl ?_
              refine z_calli hW (va_runV (C := RX2) (As := [.int (zI (lx + i)), .int (zI ((lo - lx) + (d - i)))]) (rest := [.int (zI v)]) CX.fix (c_at l (f := va_up (va_up f h (zA cI 25 cp)) ha (zA cI 25 cs)) h1 ha cs (lx + i) ((lo - lx) + (d - i)) ((va_up_ne _ _ (zne hg0 hg1 zoi)).trans ((va_up_ne _ _ (zne hg0 hf1 zoi)).trans hg0)) (va_up_self _ _ _) (by constructor <;> omega) (by constructor <;> omega)) (cwV 2 CX.fix.2.2.2.2 gX2_quotient_X2_at rfl rfl rfl (by decide +kernel) ⟨Nat.le_of_ble_eq_true rfl, Nat.le_of_ble_eq_true rfl⟩) (z_preV CX hW (r := (RX2, TX2, 1)) ((va_up_ne _ _ (zne hg0 hg1 zoi)).trans ((va_up_ne _ _ (zne hg0 hf1 zoi)).trans hg0)) rfl) rfl rfl hl.1 rfl (lv_room (Nat.le_of_ble_eq_true rfl)) dX2_quotient_82 ⟨Nat.zero_le _, Nat.zero_le _⟩) (fun zv gn H locs hok82 hW => ?_)
              obtain ⟨ez, eg⟩ := hok82
              have eg : gn = va_up (va_up f h (zA cI 25 cp)) ha (zA cI 25 cs) := eg
              rw [eg] at hW
              clear eg
              have ez : zv = zat cs (lx + i) ((lo - lx) + (d - i)) := ez
              rw [ez]
              clear ez
              have hat := zat_can (p := 31) (by omega) hci (lx + i) (lo - lx + (d - i))
              have hvm := zmul_rng (a := v) (b := zat cs (lx + i) (lo - lx + (d - i))) (A := 31) (B := 31) (by omega) (by omega)
              refine z_imul (z := v * (zat cs (lx + i) ((lo - lx) + (d - i)))) CX dX2_quotient_85 rfl ?_
              refine lv_iload_n hX0 hB0 dX2_quotient_86 rfl (lv_at hl 9 rfl) ?_
              refine z_calli hW (va_runSN (As := [.int (zI (v * (zat cs (lx + i) ((lo - lx) + (d - i))))), .int (zI p)]) (rest := []) CX.fix (c_mod l (f := va_up (va_up f h (zA cI 25 cp)) ha (zA cI 25 cs)) (v * (zat cs (lx + i) ((lo - lx) + (d - i)))) p (by constructor <;> omega) (by constructor <;> omega)) ⟨va_cnB (own := RX2) (host := "CurveMeets") (index := 23) 2 CX.fix.2.2.2.2 ggX2_quotient_X11_mod rfl rfl rfl (CX.2.2.2.2.2.2.2.1 _ (by decide +kernel)) (CX.at (List.mem_of_getElem? (i := 30) rfl)) (by decide +kernel) ⟨Nat.le_of_ble_eq_true rfl, Nat.le_of_ble_eq_true rfl⟩, CX.at (List.mem_of_getElem? (i := 32) rfl), trivial⟩ (z_preS CX hW) rfl rfl hl.1 rfl (lv_room (Nat.le_of_ble_eq_true rfl)) dX2_quotient_87 ⟨Nat.zero_le _, Nat.zero_le _⟩) (fun zv gn H locs hok87 hW => ?_)
              obtain ⟨ez, eg⟩ := hok87
              have eg : gn = va_up (va_up f h (zA cI 25 cp)) ha (zA cI 25 cs) := eg
              rw [eg] at hW
              clear eg
              have ez : zv = (v * (zat cs (lx + i) ((lo - lx) + (d - i)))) % p := ez
              rw [ez]
              clear ez
              have hm87 := zmr (v * (zat cs (lx + i) ((lo - lx) + (d - i)))) (p := p) (by omega)
              refine lv_istore (lv' := [(10, .int (zI ((v * (zat cs (lx + i) ((lo - lx) + (d - i)))) % p))), (9, .int (zI (d - i))), (8, .int (zI i)), (7, .int (zI d)), (6, .int (zI v)), (4, .int (zI lo)), (5, .int (zI lx)), (0, .ref h0), (1, .ref h1), (2, .ref h2), (3, .int (zI p))]) hX0 hB0 dX2_quotient_90 hl (by decide) rfl (fun ls hl => ?_)
              refine lv_aload_n hX0 hB0 dX2_quotient_92 rfl (lv_at hl 7 rfl) ?_
              refine lv_iload hX0 hB0 dX2_quotient_93 (lv_at hl 2 rfl) ?_
              refine lv_iload hX0 hB0 dX2_quotient_95 (lv_at hl 1 rfl) ?_
              refine lv_iload hX0 hB0 dX2_quotient_97 (lv_at hl 0 rfl) ?_
              refine z_callv hW (va_runV (C := RX2) (As := [.int (zI i), .int (zI (d - i)), .int (zI ((v * (zat cs (lx + i) ((lo - lx) + (d - i)))) % p))]) (rest := []) CX.fix (c_put l (f := va_up (va_up f h (zA cI 25 cp)) ha (zA cI 25 cs)) h0 h cp i (d - i) ((v * (zat cs (lx + i) ((lo - lx) + (d - i)))) % p) ((va_up_ne _ _ (zne hf0 hg1 zoi)).trans ((va_up_ne _ _ (zne hf0 hf1 zoi)).trans hf0)) ((va_up_ne _ _ hna).trans (va_up_self _ _ _)) (by constructor <;> omega) (by constructor <;> omega)) (cwV 3 CX.fix.2.2.2.2 gX2_quotient_X2_put rfl rfl rfl (by decide +kernel) ⟨Nat.le_of_ble_eq_true rfl, Nat.le_of_ble_eq_true rfl⟩) (z_preV CX hW (r := (RX2, TX2, 1)) ((va_up_ne _ _ (zne hf0 hg1 zoi)).trans ((va_up_ne _ _ (zne hf0 hf1 zoi)).trans hf0)) rfl) rfl rfl hl.1 rfl (lv_room (Nat.le_of_ble_eq_true rfl)) dX2_quotient_99 ⟨Nat.zero_le _, Nat.zero_le _⟩) (fun gn H locs hok99 hW => ?_)
              have eg : gn = va_up (va_up f h (zA cI 25 (zput cp i (d - i) ((v * (zat cs (lx + i) ((lo - lx) + (d - i)))) % p)))) ha (zA cI 25 cs) := (hok99).trans (by rw [va_up_comm (a := ha) (b := h) (Ne.symm hna), va_up_up]; try rfl)
              rw [eg] at hW
              clear eg
              refine lv_aload_n hX0 hB0 dX2_quotient_102 rfl (lv_at hl 8 rfl) ?_
              refine lv_aload_n hX0 hB0 dX2_quotient_103 rfl (lv_at hl 9 rfl) ?_
              refine lv_iload hX0 hB0 dX2_quotient_104 (lv_at hl 2 rfl) ?_
              refine lv_iload hX0 hB0 dX2_quotient_106 (lv_at hl 1 rfl) ?_
              refine lv_iload_n hX0 hB0 dX2_quotient_108 rfl (lv_at hl 10 rfl) ?_
              refine lv_iload hX0 hB0 dX2_quotient_109 (lv_at hl 0 rfl) ?_
              refine z_isub (z := p - ((v * (zat cs (lx + i) ((lo - lx) + (d - i)))) % p)) CX dX2_quotient_111 rfl ?_
              refine lv_iload_n hX0 hB0 dX2_quotient_112 rfl (lv_at hl 10 rfl) ?_
              refine z_callv hW (va_runV (C := RX2) (As := [.ref h2, .int (zI i), .int (zI (d - i)), .int (zI (p - ((v * (zat cs (lx + i) ((lo - lx) + (d - i)))) % p))), .int (zI p)]) (rest := []) CX.fix (c_addShifted l (f := va_up (va_up f h (zA cI 25 (zput cp i (d - i) ((v * (zat cs (lx + i) ((lo - lx) + (d - i)))) % p)))) ha (zA cI 25 cs)) h1 ha cs h2 hb e i (d - i) (p - ((v * (zat cs (lx + i) ((lo - lx) + (d - i)))) % p)) p ((va_up_ne _ _ (zne hg0 hg1 zoi)).trans ((va_up_ne _ _ (zne hg0 hf1 zoi)).trans hg0)) (va_up_self _ _ _) ((va_up_ne _ _ (zne hk0 hg1 zoi)).trans ((va_up_ne _ _ (zne hk0 hf1 zoi)).trans hk0)) ((va_up_ne _ _ (Ne.symm hnc)).trans ((va_up_ne _ _ (Ne.symm hnb)).trans hk1)) hnc (by first | assumption | exact zcan_le (by assumption) (by omega)) (by first | assumption | exact zcan_le (by assumption) (by omega)) (by constructor <;> omega) (by constructor <;> omega) (by constructor <;> omega) (by constructor <;> omega)) (cwV 5 CX.fix.2.2.2.2 gX2_quotient_X2_addShifted rfl rfl rfl (by decide +kernel) ⟨Nat.le_of_ble_eq_true rfl, Nat.le_of_ble_eq_true rfl⟩) (z_preV CX hW (r := (RX2, TX2, 1)) ((va_up_ne _ _ (zne hg0 hg1 zoi)).trans ((va_up_ne _ _ (zne hg0 hf1 zoi)).trans hg0)) rfl) rfl rfl hl.1 rfl (lv_room (Nat.le_of_ble_eq_true rfl)) dX2_quotient_113 ⟨Nat.zero_le _, Nat.zero_le _⟩) (fun gn H locs hok113 hW => ?_)
              have eg : gn = va_up (va_up f h (zA cI 25 (zput cp i (d - i) ((v * (zat cs (lx + i) ((lo - lx) + (d - i)))) % p)))) ha (zA cI 25 (zaddS cs e i (d - i) (p - ((v * (zat cs (lx + i) ((lo - lx) + (d - i)))) % p)) p)) := (hok113).trans va_up_up
              rw [eg] at hW
              clear eg
              refine lv_iinc (v := zI (i + (-1))) (lv' := [(8, .int (zI (i + (-1)))), (10, .int (zI ((v * (zat cs (lx + i) ((lo - lx) + (d - i)))) % p))), (9, .int (zI (d - i))), (7, .int (zI d)), (6, .int (zI v)), (4, .int (zI lo)), (5, .int (zI lx)), (0, .ref h0), (1, .ref h1), (2, .ref h2), (3, .int (zI p))]) hX0 hB0 dX2_quotient_116 hl (k := 2) rfl (zI_add _ _) (by decide) rfl (fun ls hl => ?_)
              refine lv_goto (tgt := 54) hX0 hB0 dX2_quotient_119 (by decide) ?_
              exact ih54 (i + (-1)) (zput cp i (d - i) ((v * (zat cs (lx + i) ((lo - lx) + (d - i)))) % p)) (zaddS cs e i (d - i) (p - ((v * (zat cs (lx + i) ((lo - lx) + (d - i)))) % p)) p) ⟨by omega, by omega, by rw [zforD_t _ _ _ hi1, ← hin]; rfl, zaddS_can (by omega) (by omega) hci⟩ (by omega) H locs ls hW (lv_sub hl [0, 3, 4, 5, 6, 7, 8, 9, 10] rfl)
        exact hL54 _ d cq cr ⟨by omega, by omega, (zforD_0 _ _ _ (Int.le_refl _)).symm, hcr⟩ (Nat.lt_succ_self _) H locs ls hW (lv_sub hl [0, 1, 2, 3, 4, 5, 6, 7, 8] rfl)
  have hW := hW
  rw [show va_up f h (zA cI 25 (zone 0)) = va_up (va_up f h (zA cI 25 (zone 0))) ha (zA cI 25 r) from by rw [va_up_id (a := ha) ((va_up_ne _ _ (Ne.symm hna)).trans hg1)]] at hW
  exact hL45 _ ((ztop r) - (ztop e)) (zone 0) r (zinv (zat e (zlead e (ztop e)) ((ztop e) - (zlead e (ztop e)))) p) (ztop e) (zlead e (ztop e)) ⟨rfl, rfl, rfl, Int.le_refl _, Or.inr rfl, by omega, (zforD_0 _ _ _ (Int.le_refl _)).symm, hr⟩ (Nat.lt_succ_self _) H locs ls hW (lv_sub hl [0, 1, 3, 2, 4, 5, 6, 7] rfl)
set_option maxRecDepth 100000 in
set_option maxHeartbeats 4000000 in
/-- Poly.normalize -/
theorem c_normalize (l : Launch) {D : va_G} {cI cJ cZ cP cS cM : ClassId} {L : List Nat} {sz : Nat} {f : Nat → va_E} (h0 h : Nat) (c : Nat → Int) (p : Int) (hf0 : f h0 = .inr (2, [.ref h])) (hf1 : f h = zA cI 25 c) (hc : zcan 31 c) (hp : 2 ≤ p ∧ p ≤ 31) : zMv l yX2_normalize wsX2_normalize 2 44 D (zT cI cJ cZ cP cS cM) L sz f [.ref h0, .int (zI p)] (fun g => g = va_up f h (zA cI 25 (znorm c p))) := by
  refine zWalk.met (nL := 6) (ret := none) (cc := cX2_normalize) (by decide) rfl (Nat.le_of_ble_eq_true rfl) ?_
  intro pg en st mi ag bl mt cd ls CX hW hl
  have CX : zC pg st mi ag mt cd cX2_normalize 6 none RX2 wsX2_normalize := CX
  generalize hQ : MQ bl _ ag st 0 0 _ = Q
  have hX0 := CX.1
  have hB0 := CX.2.1
  have hl : lv_has ls 6 [(0, .ref h0), (1, .int (zI p))] := hl
  obtain ⟨H, eH⟩ : ∃ H, H = st.heap := ⟨_, rfl⟩
  obtain ⟨locs, eL⟩ : ∃ L : List Loc, L = [] := ⟨_, rfl⟩
  have hW : zW D (zT cI cJ cZ cP cS cM) L (zQ L sz) st f st.heap H locs := by rw [eH, eL]; exact hW
  suffices hgo : W pg l en ({ frames := 2, cells := 0, slots := 0, locals := 44 } : Room) st mi ag bl mt cd H locs 0 0 Q (F0 mi 0 ls []) by rw [eH, eL] at hgo; exact hgo
  clear eH eL
  refine lv_aload_n hX0 hB0 dX2_normalize_0 rfl (lv_at hl 0 rfl) ?_
  refine z_calli hW (va_runV (C := RX2) (As := []) (rest := []) CX.fix (c_top l (f := f) h0 h c hf0 hf1 (by first | assumption | exact zcan_le (by assumption) (by omega))) (cwV 0 CX.fix.2.2.2.2 gX2_normalize_X2_top rfl rfl rfl (by decide +kernel) ⟨Nat.le_of_ble_eq_true rfl, Nat.le_of_ble_eq_true rfl⟩) (z_preV CX hW (r := (RX2, TX2, 1)) hf0 rfl) rfl rfl hl.1 rfl (lv_room (Nat.le_of_ble_eq_true rfl)) dX2_normalize_1 ⟨Nat.zero_le _, Nat.zero_le _⟩) (fun zv gn H locs hok1 hW => ?_)
  obtain ⟨ez, eg⟩ := hok1
  have eg : gn = f := eg
  rw [eg] at hW
  clear eg
  have ez : zv = ztop c := ez
  rw [ez]
  clear ez
  have htp1 := ztop_rng c
  refine lv_istore_n (lv' := [(2, .int (zI (ztop c))), (0, .ref h0), (1, .int (zI p))]) hX0 hB0 dX2_normalize_4 rfl hl (by decide) rfl (fun ls hl => ?_)
  refine lv_aload_n hX0 hB0 dX2_normalize_5 rfl (lv_at hl 1 rfl) ?_
  refine lv_iload_n hX0 hB0 dX2_normalize_6 rfl (lv_at hl 0 rfl) ?_
  refine z_calli hW (va_runV (C := RX2) (As := [.int (zI (ztop c))]) (rest := []) CX.fix (c_leadAt l (f := f) h0 h c (ztop c) hf0 hf1 (by first | assumption | exact zcan_le (by assumption) (by omega)) (by constructor <;> omega)) (cwV 1 CX.fix.2.2.2.2 gX2_normalize_X2_leadAt rfl rfl rfl (by decide +kernel) ⟨Nat.le_of_ble_eq_true rfl, Nat.le_of_ble_eq_true rfl⟩) (z_preV CX hW (r := (RX2, TX2, 1)) hf0 rfl) rfl rfl hl.1 rfl (lv_room (Nat.le_of_ble_eq_true rfl)) dX2_normalize_7 ⟨Nat.zero_le _, Nat.zero_le _⟩) (fun zv gn H locs hok7 hW => ?_)
  obtain ⟨ez, eg⟩ := hok7
  have eg : gn = f := eg
  rw [eg] at hW
  clear eg
  have ez : zv = zlead c (ztop c) := ez
  rw [ez]
  clear ez
  have hld7 := zlead_rng c (ztop c) (by omega)
  refine lv_istore_n (lv' := [(3, .int (zI (zlead c (ztop c)))), (2, .int (zI (ztop c))), (0, .ref h0), (1, .int (zI p))]) hX0 hB0 dX2_normalize_10 rfl hl (by decide) rfl (fun ls hl => ?_)
  refine lv_aload_n hX0 hB0 dX2_normalize_11 rfl (lv_at hl 2 rfl) ?_
  refine lv_iload_n hX0 hB0 dX2_normalize_12 rfl (lv_at hl 0 rfl) ?_
  refine lv_iload_n hX0 hB0 dX2_normalize_13 rfl (lv_at hl 1 rfl) ?_
  refine lv_iload_n hX0 hB0 dX2_normalize_14 rfl (lv_at hl 0 rfl) ?_
  refine z_isub (z := (ztop c) - (zlead c (ztop c))) CX dX2_normalize_15 rfl ?_
  refine z_calli hW (va_runV (C := RX2) (As := [.int (zI (zlead c (ztop c))), .int (zI ((ztop c) - (zlead c (ztop c))))]) (rest := []) CX.fix (c_at l (f := f) h0 h c (zlead c (ztop c)) ((ztop c) - (zlead c (ztop c))) hf0 hf1 (by constructor <;> omega) (by constructor <;> omega)) (cwV 2 CX.fix.2.2.2.2 gX2_normalize_X2_at rfl rfl rfl (by decide +kernel) ⟨Nat.le_of_ble_eq_true rfl, Nat.le_of_ble_eq_true rfl⟩) (z_preV CX hW (r := (RX2, TX2, 1)) hf0 rfl) rfl rfl hl.1 rfl (lv_room (Nat.le_of_ble_eq_true rfl)) dX2_normalize_16 ⟨Nat.zero_le _, Nat.zero_le _⟩) (fun zv gn H locs hok16 hW => ?_)
  obtain ⟨ez, eg⟩ := hok16
  have eg : gn = f := eg
  rw [eg] at hW
  clear eg
  have ez : zv = zat c (zlead c (ztop c)) ((ztop c) - (zlead c (ztop c))) := ez
  rw [ez]
  clear ez
  have hat := zat_can (p := 31) (by omega) hc (zlead c (ztop c)) (ztop c - zlead c (ztop c))
  refine lv_iload_n hX0 hB0 dX2_normalize_19 rfl (lv_at hl 3 rfl) ?_
  refine z_calli hW (va_runSN (As := [.int (zI (zat c (zlead c (ztop c)) ((ztop c) - (zlead c (ztop c))))), .int (zI p)]) (rest := []) CX.fix (c_inverse l (f := f) (zat c (zlead c (ztop c)) ((ztop c) - (zlead c (ztop c)))) p (by constructor <;> omega) (by constructor <;> omega)) ⟨va_cnB (own := RX2) (host := "CurveMeets") (index := 60) 2 CX.fix.2.2.2.2 ggX2_normalize_X11_inverse rfl rfl rfl (CX.2.2.2.2.2.2.2.1 _ (by decide +kernel)) (CX.at (List.mem_of_getElem? (i := 26) rfl)) (by decide +kernel) ⟨Nat.le_of_ble_eq_true rfl, Nat.le_of_ble_eq_true rfl⟩, CX.at (List.mem_of_getElem? (i := 25) rfl), trivial⟩ (z_preS CX hW) rfl rfl hl.1 rfl (lv_room (Nat.le_of_ble_eq_true rfl)) dX2_normalize_20 ⟨Nat.zero_le _, Nat.zero_le _⟩) (fun zv gn H locs hok20 hW => ?_)
  obtain ⟨ez, eg⟩ := hok20
  have eg : gn = f := eg
  rw [eg] at hW
  clear eg
  have ez : zv = zinv (zat c (zlead c (ztop c)) ((ztop c) - (zlead c (ztop c)))) p := ez
  rw [ez]
  clear ez
  have hinv20 := zinv_rng (zat c (zlead c (ztop c)) ((ztop c) - (zlead c (ztop c)))) (p := p) (by omega)
  refine lv_istore (lv' := [(4, .int (zI (zinv (zat c (zlead c (ztop c)) ((ztop c) - (zlead c (ztop c)))) p))), (3, .int (zI (zlead c (ztop c)))), (2, .int (zI (ztop c))), (0, .ref h0), (1, .int (zI p))]) hX0 hB0 dX2_normalize_23 hl (by decide) rfl (fun ls hl => ?_)
  refine lv_iconst (v := zI 0) hX0 hB0 dX2_normalize_25 rfl ?_
  refine lv_istore (lv' := [(5, .int (zI 0)), (4, .int (zI (zinv (zat c (zlead c (ztop c)) ((ztop c) - (zlead c (ztop c)))) p))), (3, .int (zI (zlead c (ztop c)))), (2, .int (zI (ztop c))), (0, .ref h0), (1, .int (zI p))]) hX0 hB0 dX2_normalize_26 hl (by decide) rfl (fun ls hl => ?_)
  have hL28 : ∀ (fu : Nat) (k : Int) (cc : Nat → Int) (v : Int) (n : Int) (lx : Int), (0 ≤ k ∧ k ≤ 25 ∧ v = zinv (zat c (zlead c (ztop c)) (ztop c - zlead c (ztop c))) p ∧ 0 ≤ v ∧ v < p ∧ (∀ j : Nat, (j : Int) < k → cc j = znorm c p j) ∧ (∀ j : Nat, k ≤ (j : Int) → cc j = c j)) → (25 - k).toNat < fu → ∀ (H : Heap) (locs : List Loc) (ls : Array Slot), zW D (zT cI cJ cZ cP cS cM) L (zQ L sz) st (va_up f h (zA cI 25 cc)) st.heap H locs → lv_has ls 6 [(5, .int (zI k)), (4, .int (zI v)), (2, .int (zI n)), (3, .int (zI lx)), (0, .ref h0), (1, .int (zI p))] → W pg l en ({ frames := 2, cells := 0, slots := 0, locals := 44 } : Room) st mi ag bl mt cd H locs 0 0 Q (F0 mi 28 ls []) := by
    intro fu
    induction fu with
    | zero => intro k cc v n lx _ hfu; exact absurd hfu (Nat.not_lt_zero _)
    | succ fu ih28 =>
      intro k cc v n lx hinv28 hfu28 H locs ls hW hl
      obtain ⟨hk0, hk1, ev, hv0, hv1, hcn, hcr⟩ := hinv28
      refine lv_iload hX0 hB0 dX2_normalize_28 (lv_at hl 0 rfl) ?_
      refine lv_aload_n hX0 hB0 dX2_normalize_30 rfl (lv_at hl 4 rfl) ?_
      refine z_get (Cn := RX2) (T := TX2) (N := 1) CX hW (v := .ref h) ((va_up_ne _ _ (zne hf0 hf1 zoi)).trans hf0) rfl (fun w h => List.mem_cons_of_mem _ (List.mem_append_right _ h)) 0 (by decide) (List.mem_of_getElem? (i := 1) rfl) rfl rfl dX2_normalize_31 ?_
      refine z_alen (n := 25) CX hW (va_up_self _ _ _) 0 rfl rfl dX2_normalize_34 ?_
      refine z_icmp_ge (tgt := 65) CX dX2_normalize_35 (by decide) (by constructor <;> omega) (by constructor <;> omega) (fun c_35 => ?_) (fun c_35 => ?_)
      ·
        have hW := hW.same (d := znorm c p) (fun j hj => hcn j (by omega))
        rw [← hQ]
        exact z_vret CX hW (by rfl) dX2_normalize_65
      ·
        refine lv_aload_n hX0 hB0 dX2_normalize_38 rfl (lv_at hl 4 rfl) ?_
        refine z_get (Cn := RX2) (T := TX2) (N := 1) CX hW (v := .ref h) ((va_up_ne _ _ (zne hf0 hf1 zoi)).trans hf0) rfl (fun w h => List.mem_cons_of_mem _ (List.mem_append_right _ h)) 0 (by decide) (List.mem_of_getElem? (i := 1) rfl) rfl rfl dX2_normalize_39 ?_
        refine lv_iload hX0 hB0 dX2_normalize_42 (lv_at hl 0 rfl) ?_
        refine lv_aload_n hX0 hB0 dX2_normalize_44 rfl (lv_at hl 4 rfl) ?_
        refine z_get (Cn := RX2) (T := TX2) (N := 1) CX hW (v := .ref h) ((va_up_ne _ _ (zne hf0 hf1 zoi)).trans hf0) rfl (fun w h => List.mem_cons_of_mem _ (List.mem_append_right _ h)) 0 (by decide) (List.mem_of_getElem? (i := 1) rfl) rfl rfl dX2_normalize_45 ?_
        refine lv_iload hX0 hB0 dX2_normalize_48 (lv_at hl 0 rfl) ?_
        refine z_iald (z := cc k.toNat) CX hW (va_up_self _ _ _) 0 rfl (by refine ⟨?_, ?_, ?_⟩ <;> omega) rfl dX2_normalize_50 ?_
        have hck := hc k.toNat
        rw [← hcr k.toNat (by omega)] at hck
        have hkv := zmul_rng (a := cc k.toNat) (b := v) (A := 31) (B := 31) (by omega) (by omega)
        refine lv_iload hX0 hB0 dX2_normalize_51 (lv_at hl 1 rfl) ?_
        refine z_imul (z := (cc k.toNat) * v) CX dX2_normalize_53 rfl ?_
        refine lv_iload_n hX0 hB0 dX2_normalize_54 rfl (lv_at hl 5 rfl) ?_
        refine z_calli hW (va_runSN (As := [.int (zI ((cc k.toNat) * v)), .int (zI p)]) (rest := [.int (zI k), .ref h]) CX.fix (c_mod l (f := va_up f h (zA cI 25 cc)) ((cc k.toNat) * v) p (by constructor <;> omega) (by constructor <;> omega)) ⟨va_cnB (own := RX2) (host := "CurveMeets") (index := 23) 2 CX.fix.2.2.2.2 ggX2_normalize_X11_mod rfl rfl rfl (CX.2.2.2.2.2.2.2.1 _ (by decide +kernel)) (CX.at (List.mem_of_getElem? (i := 26) rfl)) (by decide +kernel) ⟨Nat.le_of_ble_eq_true rfl, Nat.le_of_ble_eq_true rfl⟩, CX.at (List.mem_of_getElem? (i := 28) rfl), trivial⟩ (z_preS CX hW) rfl rfl hl.1 rfl (lv_room (Nat.le_of_ble_eq_true rfl)) dX2_normalize_55 ⟨Nat.zero_le _, Nat.zero_le _⟩) (fun zv gn H locs hok55 hW => ?_)
        obtain ⟨ez, eg⟩ := hok55
        have eg : gn = va_up f h (zA cI 25 cc) := eg
        rw [eg] at hW
        clear eg
        have ez : zv = ((cc k.toNat) * v) % p := ez
        rw [ez]
        clear ez
        have hm55 := zmr ((cc k.toNat) * v) (p := p) (by omega)
        refine z_iast CX hW (va_up_self _ _ _) 0 rfl (by refine ⟨?_, ?_, ?_⟩ <;> omega) (g := va_up f h (zA cI 25 (zup cc k.toNat (((cc k.toNat) * v) % p)))) va_up_up dX2_normalize_58 (fun H locs hW => ?_)
        refine lv_iinc (v := zI (k + 1)) (lv' := [(5, .int (zI (k + 1))), (4, .int (zI v)), (2, .int (zI n)), (3, .int (zI lx)), (0, .ref h0), (1, .int (zI p))]) hX0 hB0 dX2_normalize_59 hl (k := 0) rfl (zI_add _ _) (by decide) rfl (fun ls hl => ?_)
        refine lv_goto (tgt := 28) hX0 hB0 dX2_normalize_62 (by decide) ?_
        exact ih28 (k + 1) (zup cc k.toNat (((cc k.toNat) * v) % p)) v n lx ⟨by omega, by omega, ev, hv0, hv1, zup_step (b := c) hcn hk0 (by rw [hcr k.toNat (by omega), ev]; rfl), zup_rest (b := c) hcr hk0⟩ (by omega) H locs ls hW (lv_sub hl [0, 1, 2, 3, 4, 5] rfl)
  have hW := hW
  rw [show f = va_up f h (zA cI 25 c) from by rw [va_up_id (a := h) hf1]] at hW
  exact hL28 _ 0 c (zinv (zat c (zlead c (ztop c)) ((ztop c) - (zlead c (ztop c)))) p) (ztop c) (zlead c (ztop c)) ⟨by omega, by omega, rfl, by omega, by omega, fun j hj => by omega, fun j hj => rfl⟩ (Nat.lt_succ_self _) H locs ls hW (lv_sub hl [0, 1, 3, 2, 4, 5] rfl)
end ZPq
