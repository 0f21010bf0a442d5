section ZRj
/-- columns are -1 or below the width -/
theorem zcolm_in_rng {top lx ly i j : Int} {s : (Nat → Int) × Int} (h : (∀ k, -1 ≤ s.1 k ∧ s.1 k ≤ 93) ∧ 0 ≤ s.2 ∧ s.2 ≤ 94) : (∀ k, -1 ≤ (zcolm_in top lx ly i j s).1 k ∧ (zcolm_in top lx ly i j s).1 k ≤ 93) ∧ 0 ≤ (zcolm_in top lx ly i j s).2 ∧ (zcolm_in top lx ly i j s).2 ≤ 94 := by
  unfold zcolm_in
  refine ⟨fun k => ?_, ?_⟩
  · show -1 ≤ zup s.1 _ _ k ∧ zup s.1 _ _ k ≤ 93
    unfold zup
    have := h.1 k
    split
    · split <;> omega
    · exact this
  · show 0 ≤ s.2 + _ ∧ s.2 + _ ≤ 94
    have h2 := h.2
    split <;> omega
theorem zfor_rng {σ : Type} {step : Int → σ → σ} {a : Int} {s0 : σ} (I : σ → Prop) (h0 : I s0) (hs : ∀ i x, I x → I (step i x)) : ∀ k, I (zfor step a s0 k)
  | 0 => h0
  | k + 1 => hs _ _ (zfor_rng I h0 hs k)
theorem zcolm_rng {top lx ly : Int} {c : Nat → Int} (h : ∀ k, -1 ≤ c k ∧ c k ≤ 93) : (∀ k, -1 ≤ (zcolm top lx ly c).1 k ∧ (zcolm top lx ly c).1 k ≤ 93) ∧ 0 ≤ (zcolm top lx ly c).2 ∧ (zcolm top lx ly c).2 ≤ 94 :=
  zfor_rng (fun s : (Nat → Int) × Int => (∀ k, -1 ≤ s.1 k ∧ s.1 k ≤ 93) ∧ 0 ≤ s.2 ∧ s.2 ≤ 94) ⟨h, by omega, by omega⟩ (fun i s hs => zfor_rng (fun s : (Nat → Int) × Int => (∀ k, -1 ≤ s.1 k ∧ s.1 k ≤ 93) ∧ 0 ≤ s.2 ∧ s.2 ≤ 94) hs (fun j s hs => zcolm_in_rng hs) _) _
set_option maxRecDepth 100000 in
set_option maxHeartbeats 4000000 in
/-- Ring.begin -/
theorem c_rbegin (l : Launch) {D : va_G} {cI cJ cZ cP cS cM : ClassId} {L : List Nat} {sz : Nat} {f : Nat → va_E} (r b v : Nat) (p top lc lx ly wd : Int) (row col ln : Nat → Int) (v2 vh : Nat) (d : Nat → Int) (w lim p0 : Int) (R : Nat → Nat → Int) (K : Nat → Int) (p2 top2 lc2 : Int) (hG : zRg cI f r b v p top lc lx ly wd row col ln) (hv0 : f v2 = .inr (2, [.ref vh])) (hv1 : f vh = zA cI 25 d) (hd : zcan 31 d) (hvr : v2 < r ∨ r + 6 ≤ v2) (hvhr : vh < r ∨ r + 6 ≤ vh) (hS : zSpace cI cZ cM f b w lim p0 R K) (hbr : b + 97 ≤ r ∨ r + 6 ≤ b) (hp : 2 ≤ p2 ∧ p2 ≤ 31) (htop : 0 ≤ top2 ∧ top2 ≤ 24) (hlc : lc2 = 0 ∨ lc2 = 1) (hcol : ∀ k, -1 ≤ col k ∧ col k ≤ 93) : zMv l yX5_begin wsX5_begin 3 66 D (zT cI cJ cZ cP cS cM) L sz f [.ref r, .ref v2, .int (zI top2), .int (zI lc2), .int (zI p2)] (fun g => zFrR f g b r ∧ zRg cI g r b v2 p2 top2 lc2 (zflead d lc2).1 (zflead d lc2).2 (zcolm top2 (zflead d lc2).1 (zflead d lc2).2 col).2 row (zcolm top2 (zflead d lc2).1 (zflead d lc2).2 col).1 ln ∧ zSpace cI cZ cM g b (zcolm top2 (zflead d lc2).1 (zflead d lc2).2 col).2 (zcolm top2 (zflead d lc2).1 (zflead d lc2).2 col).2 p2 R (fun _ => 0) ∧ 0 ≤ (zcolm top2 (zflead d lc2).1 (zflead d lc2).2 col).2 ∧ (zcolm top2 (zflead d lc2).1 (zflead d lc2).2 col).2 ≤ 94 ∧ ∀ k, -1 ≤ (zcolm top2 (zflead d lc2).1 (zflead d lc2).2 col).1 k ∧ (zcolm top2 (zflead d lc2).1 (zflead d lc2).2 col).1 k ≤ 93) := by
  refine zWalk.met (nL := 8) (ret := none) (cc := cX5_begin) (by decide) rfl (Nat.le_of_ble_eq_true rfl) ?_
  intro pg en st mi ag bl mt cd ls CX hW hl
  have CX : zC pg st mi ag mt cd cX5_begin 8 none RX5 wsX5_begin := CX
  generalize hQ : MQ bl _ ag st 0 0 _ = Q
  have hX0 := CX.1
  have hB0 := CX.2.1
  have hl : lv_has ls 8 [(0, .ref r), (1, .ref v2), (2, .int (zI top2)), (3, .int (zI lc2)), (4, .int (zI p2))] := hl
  obtain ⟨H, eH⟩ : ∃ H, H = st.heap := ⟨_, rfl⟩
  obtain ⟨locs, eL⟩ : ∃ L : List Loc, L = [] := ⟨_, rfl⟩
  have hW : zW D (zT cI cJ cZ cP cS cM) L (zQ L sz) st f st.heap H locs := by rw [eH, eL]; exact hW
  suffices hgo : W pg l en ({ frames := 3, cells := 0, slots := 0, locals := 66 } : Room) st mi ag bl mt cd H locs 0 0 Q (F0 mi 0 ls []) by rw [eH, eL] at hgo; exact hgo
  clear eH eL
  refine lv_aload_n hX0 hB0 dX5_begin_0 rfl (lv_at hl 0 rfl) ?_
  refine lv_aload_n hX0 hB0 dX5_begin_1 rfl (lv_at hl 1 rfl) ?_
  refine z_put (Cn := RX5) (T := TX5) (N := 11) CX hW (v := .ref v2) hG.1 rfl (fun w h => List.mem_cons_of_mem _ (List.mem_append_left _ (List.mem_append_left _ (List.mem_append_right _ h)))) tyX5 tyX5_ok nmX5 4 (by decide) (List.mem_of_getElem? (i := 1) rfl) rfl rfl rfl rfl (Nat.le_of_ble_eq_true rfl) (g := va_up f r (.inr (5, [.ref b, .ref (r + 1), .ref (r + 2), .ref (r + 3), .ref v2, .int (zI p), .int (zI top), .int (zI lc), .int (zI lx), .int (zI ly), .int (zI wd)]))) rfl dX5_begin_2 (fun H locs hW => ?_)
  refine lv_aload_n hX0 hB0 dX5_begin_5 rfl (lv_at hl 0 rfl) ?_
  refine lv_iload_n hX0 hB0 dX5_begin_6 rfl (lv_at hl 2 rfl) ?_
  refine z_put (Cn := RX5) (T := TX5) (N := 11) CX hW (v := .int (zI top2)) (va_up_self _ _ _) rfl (fun w h => List.mem_cons_of_mem _ (List.mem_append_left _ (List.mem_append_left _ (List.mem_append_right _ h)))) tyX5 tyX5_ok nmX5 6 (by decide) (List.mem_of_getElem? (i := 2) rfl) rfl rfl rfl rfl (Nat.le_of_ble_eq_true rfl) (g := va_up f r (.inr (5, [.ref b, .ref (r + 1), .ref (r + 2), .ref (r + 3), .ref v2, .int (zI p), .int (zI top2), .int (zI lc), .int (zI lx), .int (zI ly), .int (zI wd)]))) va_up_up dX5_begin_7 (fun H locs hW => ?_)
  refine lv_aload_n hX0 hB0 dX5_begin_10 rfl (lv_at hl 0 rfl) ?_
  refine lv_iload_n hX0 hB0 dX5_begin_11 rfl (lv_at hl 3 rfl) ?_
  refine z_put (Cn := RX5) (T := TX5) (N := 11) CX hW (v := .int (zI lc2)) (va_up_self _ _ _) rfl (fun w h => List.mem_cons_of_mem _ (List.mem_append_left _ (List.mem_append_left _ (List.mem_append_right _ h)))) tyX5 tyX5_ok nmX5 7 (by decide) (List.mem_of_getElem? (i := 3) rfl) rfl rfl (zI_bool hlc) (by rcases hlc with h9 | h9 <;> rw [h9] <;> rfl) (Nat.le_of_ble_eq_true rfl) (g := va_up f r (.inr (5, [.ref b, .ref (r + 1), .ref (r + 2), .ref (r + 3), .ref v2, .int (zI p), .int (zI top2), .int (zI lc2), .int (zI lx), .int (zI ly), .int (zI wd)]))) va_up_up dX5_begin_12 (fun H locs hW => ?_)
  refine lv_aload_n hX0 hB0 dX5_begin_15 rfl (lv_at hl 0 rfl) ?_
  refine lv_iload hX0 hB0 dX5_begin_16 (lv_at hl 4 rfl) ?_
  refine z_put (Cn := RX5) (T := TX5) (N := 11) CX hW (v := .int (zI p2)) (va_up_self _ _ _) rfl (fun w h => List.mem_cons_of_mem _ (List.mem_append_left _ (List.mem_append_left _ (List.mem_append_right _ h)))) tyX5 tyX5_ok nmX5 5 (by decide) (List.mem_of_getElem? (i := 4) rfl) rfl rfl rfl rfl (Nat.le_of_ble_eq_true rfl) (g := va_up f r (.inr (5, [.ref b, .ref (r + 1), .ref (r + 2), .ref (r + 3), .ref v2, .int (zI p2), .int (zI top2), .int (zI lc2), .int (zI lx), .int (zI ly), .int (zI wd)]))) va_up_up dX5_begin_18 (fun H locs hW => ?_)
  refine lv_aload_n hX0 hB0 dX5_begin_21 rfl (lv_at hl 0 rfl) ?_
  refine z_callv hW (va_runV (C := RX5) (As := []) (rest := []) CX.fix (c_findLead l (f := va_up f r (.inr (5, [.ref b, .ref (r + 1), .ref (r + 2), .ref (r + 3), .ref v2, .int (zI p2), .int (zI top2), .int (zI lc2), .int (zI lx), .int (zI ly), .int (zI wd)]))) r b v2 p2 top2 lc2 lx ly wd row col ln vh d ⟨(va_up_self _ _ _), ((va_up_ne _ _ (by omega)).trans hG.2.1), ((va_up_ne _ _ (by omega)).trans hG.2.2.1), ((va_up_ne _ _ (by omega)).trans hG.2.2.2)⟩ ((va_up_ne _ _ (by omega)).trans hv0) ((va_up_ne _ _ (by omega)).trans hv1) (by first | assumption | exact zcan_le (by assumption) (by omega)) (by omega) (by omega) (by omega)) (cwV 0 CX.fix.2.2.2.2 gX5_begin_X5_findLead rfl rfl rfl (by decide +kernel) ⟨Nat.le_of_ble_eq_true rfl, Nat.le_of_ble_eq_true rfl⟩) (z_preV CX hW (r := (RX5, TX5, 11)) (va_up_self _ _ _) rfl) rfl rfl hl.1 rfl (lv_room (Nat.le_of_ble_eq_true rfl)) dX5_begin_22 ⟨Nat.zero_le _, Nat.zero_le _⟩) (fun gn H locs hok22 hW => ?_)
  have eg : gn = va_up f r (.inr (5, [.ref b, .ref (r + 1), .ref (r + 2), .ref (r + 3), .ref v2, .int (zI p2), .int (zI top2), .int (zI lc2), .int (zI ((zflead d lc2).1)), .int (zI ((zflead d lc2).2)), .int (zI wd)])) := (hok22).trans va_up_up
  rw [eg] at hW
  clear eg
  have hfl22 := zflead_rng d lc2
  refine lv_aload_n hX0 hB0 dX5_begin_25 rfl (lv_at hl 0 rfl) ?_
  refine lv_iconst (v := zI 0) hX0 hB0 dX5_begin_26 rfl ?_
  refine z_put (Cn := RX5) (T := TX5) (N := 11) CX hW (v := .int (zI 0)) (va_up_self _ _ _) rfl (fun w h => List.mem_cons_of_mem _ (List.mem_append_left _ (List.mem_append_left _ (List.mem_append_right _ h)))) tyX5 tyX5_ok nmX5 10 (by decide) (List.mem_of_getElem? (i := 5) rfl) rfl rfl rfl rfl (Nat.le_of_ble_eq_true rfl) (g := va_up f r (.inr (5, [.ref b, .ref (r + 1), .ref (r + 2), .ref (r + 3), .ref v2, .int (zI p2), .int (zI top2), .int (zI lc2), .int (zI ((zflead d lc2).1)), .int (zI ((zflead d lc2).2)), .int (zI 0)]))) va_up_up dX5_begin_27 (fun H locs hW => ?_)
  refine lv_iconst (v := zI 0) hX0 hB0 dX5_begin_30 rfl ?_
  refine lv_istore (lv' := [(5, .int (zI 0)), (0, .ref r), (1, .ref v2), (2, .int (zI top2)), (3, .int (zI lc2)), (4, .int (zI p2))]) hX0 hB0 dX5_begin_31 hl (by decide) rfl (fun ls hl => ?_)
  have hL33 : ∀ (fu : Nat) (i : Int) (co : Nat → Int) (wd1 : Int), (0 ≤ i ∧ (i ≤ 25 ∨ i = 0) ∧ (co, wd1) = zfor (zcolm_out top2 (zflead d lc2).1 (zflead d lc2).2) 0 (col, 0) (i - 0).toNat ∧ 0 ≤ wd1 ∧ wd1 ≤ 94) → (25 - i).toNat < fu → ∀ (H : Heap) (locs : List Loc) (ls : Array Slot), zW D (zT cI cJ cZ cP cS cM) L (zQ L sz) st (va_up (va_up f r (.inr (5, [.ref b, .ref (r + 1), .ref (r + 2), .ref (r + 3), .ref v2, .int (zI p2), .int (zI top2), .int (zI lc2), .int (zI ((zflead d lc2).1)), .int (zI ((zflead d lc2).2)), .int (zI wd1)]))) (r + 2) (zA cI 625 co)) st.heap H locs → lv_has ls 8 [(5, .int (zI i)), (0, .ref r), (1, .ref v2), (2, .int (zI top2)), (3, .int (zI lc2)), (4, .int (zI p2))] → W pg l en ({ frames := 3, cells := 0, slots := 0, locals := 66 } : Room) st mi ag bl mt cd H locs 0 0 Q (F0 mi 33 ls []) := by
    intro fu
    induction fu with
    | zero => intro i co wd1 _ hfu; exact absurd hfu (Nat.not_lt_zero _)
    | succ fu ih33 =>
      intro i co wd1 hinv33 hfu33 H locs ls hW hl
      obtain ⟨hi0, hi1, hst, hw0, hw1⟩ := hinv33
      refine lv_iload hX0 hB0 dX5_begin_33 (lv_at hl 0 rfl) ?_
      refine lv_bipush (v := zI 24) hX0 hB0 dX5_begin_35 (by decide) ?_
      refine z_icmp_gt (tgt := 156) CX dX5_begin_37 (by decide) (by constructor <;> omega) (by constructor <;> omega) (fun c_37 => ?_) (fun c_37 => ?_)
      ·
        have hfin : (co, wd1) = zcolm top2 (zflead d lc2).1 (zflead d lc2).2 col := by rw [hst]; unfold zcolm; congr 1; omega
        refine lv_aload_n hX0 hB0 dX5_begin_156 rfl (lv_at hl 1 rfl) ?_
        refine z_get (Cn := RX5) (T := TX5) (N := 11) CX hW (v := .ref b) ((va_up_ne _ _ (by omega)).trans (va_up_self _ _ _)) rfl (fun w h => List.mem_cons_of_mem _ (List.mem_append_left _ (List.mem_append_left _ (List.mem_append_right _ h)))) 0 (by decide) (List.mem_of_getElem? (i := 9) rfl) rfl rfl dX5_begin_157 ?_
        refine lv_aload_n hX0 hB0 dX5_begin_160 rfl (lv_at hl 1 rfl) ?_
        refine z_get (Cn := RX5) (T := TX5) (N := 11) CX hW (v := .int (zI wd1)) ((va_up_ne _ _ (by omega)).trans (va_up_self _ _ _)) rfl (fun w h => List.mem_cons_of_mem _ (List.mem_append_left _ (List.mem_append_left _ (List.mem_append_right _ h)))) 10 (by decide) (List.mem_of_getElem? (i := 5) rfl) rfl rfl dX5_begin_161 ?_
        refine lv_aload_n hX0 hB0 dX5_begin_164 rfl (lv_at hl 1 rfl) ?_
        refine z_get (Cn := RX5) (T := TX5) (N := 11) CX hW (v := .int (zI wd1)) ((va_up_ne _ _ (by omega)).trans (va_up_self _ _ _)) rfl (fun w h => List.mem_cons_of_mem _ (List.mem_append_left _ (List.mem_append_left _ (List.mem_append_right _ h)))) 10 (by decide) (List.mem_of_getElem? (i := 5) rfl) rfl rfl dX5_begin_165 ?_
        refine lv_aload_n hX0 hB0 dX5_begin_168 rfl (lv_at hl 1 rfl) ?_
        refine z_get (Cn := RX5) (T := TX5) (N := 11) CX hW (v := .int (zI p2)) ((va_up_ne _ _ (by omega)).trans (va_up_self _ _ _)) rfl (fun w h => List.mem_cons_of_mem _ (List.mem_append_left _ (List.mem_append_left _ (List.mem_append_right _ h)))) 5 (by decide) (List.mem_of_getElem? (i := 4) rfl) rfl rfl dX5_begin_169 ?_
        refine z_callv hW (va_runV (C := RX8) (As := [.int (zI wd1), .int (zI wd1), .int (zI p2)]) (rest := []) CX.fix (c_spbegin l (f := va_up (va_up f r (.inr (5, [.ref b, .ref (r + 1), .ref (r + 2), .ref (r + 3), .ref v2, .int (zI p2), .int (zI top2), .int (zI lc2), .int (zI ((zflead d lc2).1)), .int (zI ((zflead d lc2).2)), .int (zI wd1)]))) (r + 2) (zA cI 625 co)) b w lim p0 R K wd1 wd1 p2 (hS.same (fun q h1 h2 => ((va_up_ne _ _ (by omega)).trans ((va_up_ne _ _ (by omega)).trans rfl)))) (by constructor <;> omega) (by constructor <;> omega) (by constructor <;> omega)) (cwV 3 CX.fix.2.2.2.2 gX5_begin_X8_begin rfl rfl rfl (by decide +kernel) ⟨Nat.le_of_ble_eq_true rfl, Nat.le_of_ble_eq_true rfl⟩) (z_preV CX hW (r := (RX8, TX8, 5)) ((va_up_ne _ _ (by omega)).trans ((va_up_ne _ _ (by omega)).trans hS.1)) rfl) rfl rfl hl.1 rfl (lv_room (Nat.le_of_ble_eq_true rfl)) dX5_begin_172 ⟨Nat.zero_le _, Nat.zero_le _⟩) (fun gn H locs hok172 hW => ?_)
        obtain ⟨g172, eg172⟩ : ∃ q, q = gn := ⟨_, rfl⟩
        rw [← eg172] at hW hok172
        clear eg172
        obtain ⟨hfr172, hsp172⟩ := hok172
        rw [Int.min_eq_left (show wd1 ≤ 94 by omega), Int.min_eq_left (Int.le_refl wd1)] at hsp172
        rw [← hQ]
        refine z_vret CX hW ?_ dX5_begin_175
        rw [← hfin]
        have hcr := zcolm_rng (top := top2) (lx := (zflead d lc2).1) (ly := (zflead d lc2).2) hcol
        rw [← hfin] at hcr
        exact ⟨fun q hq => ((hfr172 _ (by omega)).trans ((va_up_ne _ _ (by omega)).trans ((va_up_ne _ _ (by omega)).trans rfl))), ⟨((hfr172 _ (by omega)).trans ((va_up_ne _ _ (by omega)).trans (va_up_self _ _ _))), ((hfr172 _ (by omega)).trans ((va_up_ne _ _ (by omega)).trans ((va_up_ne _ _ (by omega)).trans hG.2.1))), ((hfr172 _ (by omega)).trans (va_up_self _ _ _)), ((hfr172 _ (by omega)).trans ((va_up_ne _ _ (by omega)).trans ((va_up_ne _ _ (by omega)).trans hG.2.2.2)))⟩, hsp172, hw0, hw1, hcr.1⟩
      ·
        obtain ⟨S0, hS0⟩ : ∃ q : (Nat → Int) × Int, q = (co, wd1) := ⟨_, rfl⟩
        rw [← hS0] at hst
        refine lv_iconst (v := zI 0) hX0 hB0 dX5_begin_40 rfl ?_
        refine lv_istore (lv' := [(6, .int (zI 0)), (5, .int (zI i)), (0, .ref r), (1, .ref v2), (2, .int (zI top2)), (3, .int (zI lc2)), (4, .int (zI p2))]) hX0 hB0 dX5_begin_41 hl (by decide) rfl (fun ls hl => ?_)
        have hL43 : ∀ (fu : Nat) (j : Int) (co : Nat → Int) (wd1 : Int), (0 ≤ j ∧ (j ≤ 24 - i + 1 ∨ j = 0) ∧ (co, wd1) = zfor (zcolm_in top2 (zflead d lc2).1 (zflead d lc2).2 i) 0 S0 (j - 0).toNat ∧ 0 ≤ wd1 ∧ wd1 ≤ 94) → (24 - i + 1 - j).toNat < fu → ∀ (H : Heap) (locs : List Loc) (ls : Array Slot), zW D (zT cI cJ cZ cP cS cM) L (zQ L sz) st (va_up (va_up f r (.inr (5, [.ref b, .ref (r + 1), .ref (r + 2), .ref (r + 3), .ref v2, .int (zI p2), .int (zI top2), .int (zI lc2), .int (zI ((zflead d lc2).1)), .int (zI ((zflead d lc2).2)), .int (zI wd1)]))) (r + 2) (zA cI 625 co)) st.heap H locs → lv_has ls 8 [(6, .int (zI j)), (5, .int (zI i)), (0, .ref r), (1, .ref v2), (2, .int (zI top2)), (3, .int (zI lc2)), (4, .int (zI p2))] → W pg l en ({ frames := 3, cells := 0, slots := 0, locals := 66 } : Room) st mi ag bl mt cd H locs 0 0 Q (F0 mi 43 ls []) := by
          intro fu
          induction fu with
          | zero => intro j co wd1 _ hfu; exact absurd hfu (Nat.not_lt_zero _)
          | succ fu ih43 =>
            intro j co wd1 hinv43 hfu43 H locs ls hW hl
            obtain ⟨hj0, hj1, hsj, hw0, hw1⟩ := hinv43
            refine lv_iload hX0 hB0 dX5_begin_43 (lv_at hl 0 rfl) ?_
            refine lv_bipush (v := zI 24) hX0 hB0 dX5_begin_45 (by decide) ?_
            refine lv_iload hX0 hB0 dX5_begin_47 (lv_at hl 1 rfl) ?_
            refine z_isub (z := 24 - i) CX dX5_begin_49 rfl ?_
            refine z_icmp_gt (tgt := 150) CX dX5_begin_50 (by decide) (by constructor <;> omega) (by constructor <;> omega) (fun c_50 => ?_) (fun c_50 => ?_)
            ·
              refine lv_iinc (v := zI (i + 1)) (lv' := [(5, .int (zI (i + 1))), (6, .int (zI j)), (0, .ref r), (1, .ref v2), (2, .int (zI top2)), (3, .int (zI lc2)), (4, .int (zI p2))]) hX0 hB0 dX5_begin_150 hl (k := 1) rfl (zI_add _ _) (by decide) rfl (fun ls hl => ?_)
              refine lv_goto (tgt := 33) hX0 hB0 dX5_begin_153 (by decide) ?_
              exact ih33 (i + 1) co wd1 ⟨by omega, by omega, by rw [zfor_s _ _ _ hi0, ← hst, hsj]; show zfor _ 0 _ _ = zfor _ 0 _ _; rw [show (j - 0).toNat = (24 - i + 1 - 0).toNat by omega], by omega, by omega⟩ (by omega) H locs ls hW (lv_sub hl [0, 2, 3, 4, 5, 6] rfl)
            ·
              have hJ97 : ∀ (fv : Int), ((fv = 1 ∧ (i + j ≤ top2 ∧ (i < (zflead d lc2).1 ∨ j < (zflead d lc2).2) ∧ wd1 < 94)) ∨ (fv = 0 ∧ ¬ (i + j ≤ top2 ∧ (i < (zflead d lc2).1 ∨ j < (zflead d lc2).2) ∧ wd1 < 94))) → ∀ (H : Heap) (locs : List Loc) (ls : Array Slot), zW D (zT cI cJ cZ cP cS cM) L (zQ L sz) st (va_up (va_up f r (.inr (5, [.ref b, .ref (r + 1), .ref (r + 2), .ref (r + 3), .ref v2, .int (zI p2), .int (zI top2), .int (zI lc2), .int (zI ((zflead d lc2).1)), .int (zI ((zflead d lc2).2)), .int (zI wd1)]))) (r + 2) (zA cI 625 co)) st.heap H locs → lv_has ls 8 [(6, .int (zI j)), (5, .int (zI i)), (0, .ref r), (1, .ref v2), (2, .int (zI top2)), (3, .int (zI lc2)), (4, .int (zI p2))] → W pg l en ({ frames := 3, cells := 0, slots := 0, locals := 66 } : Room) st mi ag bl mt cd H locs 0 0 Q (F0 mi 97 ls [.int (zI fv)]) := by
                intro fv hinv97 H locs ls hW hl
                obtain hfv := hinv97
                refine lv_istore (lv' := [(7, .int (zI fv)), (6, .int (zI j)), (5, .int (zI i)), (0, .ref r), (1, .ref v2), (2, .int (zI top2)), (3, .int (zI lc2)), (4, .int (zI p2))]) hX0 hB0 dX5_begin_97 hl (by decide) rfl (fun ls hl => ?_)
                refine lv_aload_n hX0 hB0 dX5_begin_99 rfl (lv_at hl 3 rfl) ?_
                refine z_get (Cn := RX5) (T := TX5) (N := 11) CX hW (v := .ref (r + 2)) ((va_up_ne _ _ (by omega)).trans (va_up_self _ _ _)) rfl (fun w h => List.mem_cons_of_mem _ (List.mem_append_left _ (List.mem_append_left _ (List.mem_append_right _ h)))) 2 (by decide) (List.mem_of_getElem? (i := 8) rfl) rfl rfl dX5_begin_100 ?_
                refine lv_iload hX0 hB0 dX5_begin_103 (lv_at hl 2 rfl) ?_
                refine lv_bipush (v := zI 25) hX0 hB0 dX5_begin_105 (by decide) ?_
                refine z_imul (z := i * 25) CX dX5_begin_107 rfl ?_
                refine lv_iload hX0 hB0 dX5_begin_108 (lv_at hl 1 rfl) ?_
                refine z_iadd (z := (i * 25) + j) CX dX5_begin_110 rfl ?_
                refine lv_iload hX0 hB0 dX5_begin_111 (lv_at hl 0 rfl) ?_
                refine z_if_eq (tgt := 123) CX dX5_begin_113 (by decide) (by constructor <;> omega) (fun c_113 => ?_) (fun c_113 => ?_)
                ·
                  have hfree : ¬ (i + j ≤ top2 ∧ (i < (zflead d lc2).1 ∨ j < (zflead d lc2).2) ∧ wd1 < 94) := by omega
                  refine lv_iconst (v := zI (-1)) hX0 hB0 dX5_begin_123 rfl ?_
                  refine z_iast CX hW (va_up_self _ _ _) 0 rfl (by refine ⟨?_, ?_, ?_⟩ <;> omega) (g := va_up (va_up f r (.inr (5, [.ref b, .ref (r + 1), .ref (r + 2), .ref (r + 3), .ref v2, .int (zI p2), .int (zI top2), .int (zI lc2), .int (zI ((zflead d lc2).1)), .int (zI ((zflead d lc2).2)), .int (zI wd1)]))) (r + 2) (zA cI 625 (zup co (((i * 25) + j).toNat) (-1)))) va_up_up dX5_begin_124 (fun H locs hW => ?_)
                  refine lv_aload_n hX0 hB0 dX5_begin_125 rfl (lv_at hl 3 rfl) ?_
                  refine lv_dup hX0 hB0 dX5_begin_126 rfl ?_
                  refine z_get (Cn := RX5) (T := TX5) (N := 11) CX hW (v := .int (zI wd1)) ((va_up_ne _ _ (by omega)).trans (va_up_self _ _ _)) rfl (fun w h => List.mem_cons_of_mem _ (List.mem_append_left _ (List.mem_append_left _ (List.mem_append_right _ h)))) 10 (by decide) (List.mem_of_getElem? (i := 5) rfl) rfl rfl dX5_begin_127 ?_
                  refine lv_iload hX0 hB0 dX5_begin_130 (lv_at hl 0 rfl) ?_
                  refine z_if_eq (tgt := 139) CX dX5_begin_132 (by decide) (by constructor <;> omega) (fun c_132 => ?_) (fun c_132 => ?_)
                  ·
                    refine lv_iconst (v := zI 0) hX0 hB0 dX5_begin_139 rfl ?_
                    refine z_iadd (z := wd1 + 0) CX dX5_begin_140 rfl ?_
                    refine z_put (Cn := RX5) (T := TX5) (N := 11) CX hW (v := .int (zI (wd1 + 0))) ((va_up_ne _ _ (by omega)).trans (va_up_self _ _ _)) rfl (fun w h => List.mem_cons_of_mem _ (List.mem_append_left _ (List.mem_append_left _ (List.mem_append_right _ h)))) tyX5 tyX5_ok nmX5 10 (by decide) (List.mem_of_getElem? (i := 5) rfl) rfl rfl rfl rfl (Nat.le_of_ble_eq_true rfl) (g := va_up (va_up f r (.inr (5, [.ref b, .ref (r + 1), .ref (r + 2), .ref (r + 3), .ref v2, .int (zI p2), .int (zI top2), .int (zI lc2), .int (zI ((zflead d lc2).1)), .int (zI ((zflead d lc2).2)), .int (zI (wd1 + 0))]))) (r + 2) (zA cI 625 (zup co (((i * 25) + j).toNat) (-1)))) (by rw [va_up_comm (a := (r + 2)) (b := r) (by omega), va_up_up]; try rfl) dX5_begin_141 (fun H locs hW => ?_)
                    refine lv_iinc (v := zI (j + 1)) (lv' := [(6, .int (zI (j + 1))), (7, .int (zI fv)), (5, .int (zI i)), (0, .ref r), (1, .ref v2), (2, .int (zI top2)), (3, .int (zI lc2)), (4, .int (zI p2))]) hX0 hB0 dX5_begin_144 hl (k := 1) rfl (zI_add _ _) (by decide) rfl (fun ls hl => ?_)
                    refine lv_goto (tgt := 43) hX0 hB0 dX5_begin_147 (by decide) ?_
                    exact ih43 (j + 1) (zup co (((i * 25) + j).toNat) (-1)) (wd1 + 0) ⟨by omega, by omega, by rw [zfor_s _ _ _ hj0, ← hsj]; unfold zcolm_in; first | rw [if_pos hfree, if_pos hfree] | (rw [if_neg hfree, if_neg hfree]), by omega, by omega⟩ (by omega) H locs ls hW (lv_sub hl [0, 2, 3, 4, 5, 6, 7] rfl)
                  ·
                    omega
                ·
                  have hfree : (i + j ≤ top2 ∧ (i < (zflead d lc2).1 ∨ j < (zflead d lc2).2) ∧ wd1 < 94) := by omega
                  refine lv_aload_n hX0 hB0 dX5_begin_116 rfl (lv_at hl 3 rfl) ?_
                  refine z_get (Cn := RX5) (T := TX5) (N := 11) CX hW (v := .int (zI wd1)) ((va_up_ne _ _ (by omega)).trans (va_up_self _ _ _)) rfl (fun w h => List.mem_cons_of_mem _ (List.mem_append_left _ (List.mem_append_left _ (List.mem_append_right _ h)))) 10 (by decide) (List.mem_of_getElem? (i := 5) rfl) rfl rfl dX5_begin_117 ?_
                  refine lv_goto (tgt := 124) hX0 hB0 dX5_begin_120 (by decide) ?_
                  refine z_iast CX hW (va_up_self _ _ _) 0 rfl (by refine ⟨?_, ?_, ?_⟩ <;> omega) (g := va_up (va_up f r (.inr (5, [.ref b, .ref (r + 1), .ref (r + 2), .ref (r + 3), .ref v2, .int (zI p2), .int (zI top2), .int (zI lc2), .int (zI ((zflead d lc2).1)), .int (zI ((zflead d lc2).2)), .int (zI wd1)]))) (r + 2) (zA cI 625 (zup co (((i * 25) + j).toNat) wd1))) va_up_up dX5_begin_124 (fun H locs hW => ?_)
                  refine lv_aload_n hX0 hB0 dX5_begin_125 rfl (lv_at hl 3 rfl) ?_
                  refine lv_dup hX0 hB0 dX5_begin_126 rfl ?_
                  refine z_get (Cn := RX5) (T := TX5) (N := 11) CX hW (v := .int (zI wd1)) ((va_up_ne _ _ (by omega)).trans (va_up_self _ _ _)) rfl (fun w h => List.mem_cons_of_mem _ (List.mem_append_left _ (List.mem_append_left _ (List.mem_append_right _ h)))) 10 (by decide) (List.mem_of_getElem? (i := 5) rfl) rfl rfl dX5_begin_127 ?_
                  refine lv_iload hX0 hB0 dX5_begin_130 (lv_at hl 0 rfl) ?_
                  refine z_if_eq (tgt := 139) CX dX5_begin_132 (by decide) (by constructor <;> omega) (fun c_132 => ?_) (fun c_132 => ?_)
                  ·
                    omega
                  ·
                    refine lv_iconst (v := zI 1) hX0 hB0 dX5_begin_135 rfl ?_
                    refine lv_goto (tgt := 140) hX0 hB0 dX5_begin_136 (by decide) ?_
                    refine z_iadd (z := wd1 + 1) CX dX5_begin_140 rfl ?_
                    refine z_put (Cn := RX5) (T := TX5) (N := 11) CX hW (v := .int (zI (wd1 + 1))) ((va_up_ne _ _ (by omega)).trans (va_up_self _ _ _)) rfl (fun w h => List.mem_cons_of_mem _ (List.mem_append_left _ (List.mem_append_left _ (List.mem_append_right _ h)))) tyX5 tyX5_ok nmX5 10 (by decide) (List.mem_of_getElem? (i := 5) rfl) rfl rfl rfl rfl (Nat.le_of_ble_eq_true rfl) (g := va_up (va_up f r (.inr (5, [.ref b, .ref (r + 1), .ref (r + 2), .ref (r + 3), .ref v2, .int (zI p2), .int (zI top2), .int (zI lc2), .int (zI ((zflead d lc2).1)), .int (zI ((zflead d lc2).2)), .int (zI (wd1 + 1))]))) (r + 2) (zA cI 625 (zup co (((i * 25) + j).toNat) wd1))) (by rw [va_up_comm (a := (r + 2)) (b := r) (by omega), va_up_up]; try rfl) dX5_begin_141 (fun H locs hW => ?_)
                    refine lv_iinc (v := zI (j + 1)) (lv' := [(6, .int (zI (j + 1))), (7, .int (zI fv)), (5, .int (zI i)), (0, .ref r), (1, .ref v2), (2, .int (zI top2)), (3, .int (zI lc2)), (4, .int (zI p2))]) hX0 hB0 dX5_begin_144 hl (k := 1) rfl (zI_add _ _) (by decide) rfl (fun ls hl => ?_)
                    refine lv_goto (tgt := 43) hX0 hB0 dX5_begin_147 (by decide) ?_
                    exact ih43 (j + 1) (zup co (((i * 25) + j).toNat) wd1) (wd1 + 1) ⟨by omega, by omega, by rw [zfor_s _ _ _ hj0, ← hsj]; unfold zcolm_in; first | rw [if_pos hfree, if_pos hfree] | (rw [if_neg hfree, if_neg hfree]), by omega, by omega⟩ (by omega) H locs ls hW (lv_sub hl [0, 2, 3, 4, 5, 6, 7] rfl)
              refine lv_iload hX0 hB0 dX5_begin_53 (lv_at hl 1 rfl) ?_
              refine lv_iload hX0 hB0 dX5_begin_55 (lv_at hl 0 rfl) ?_
              refine z_iadd (z := i + j) CX dX5_begin_57 rfl ?_
              refine lv_aload_n hX0 hB0 dX5_begin_58 rfl (lv_at hl 2 rfl) ?_
              refine z_get (Cn := RX5) (T := TX5) (N := 11) CX hW (v := .int (zI top2)) ((va_up_ne _ _ (by omega)).trans (va_up_self _ _ _)) rfl (fun w h => List.mem_cons_of_mem _ (List.mem_append_left _ (List.mem_append_left _ (List.mem_append_right _ h)))) 6 (by decide) (List.mem_of_getElem? (i := 2) rfl) rfl rfl dX5_begin_59 ?_
              refine z_icmp_gt (tgt := 96) CX dX5_begin_62 (by decide) (by constructor <;> omega) (by constructor <;> omega) (fun c_62 => ?_) (fun c_62 => ?_)
              ·
                refine lv_iconst (v := zI 0) hX0 hB0 dX5_begin_96 rfl ?_
                exact hJ97 0 (by omega) H locs ls hW (lv_sub hl [0, 1, 2, 3, 4, 5, 6] rfl)
              ·
                refine lv_iload hX0 hB0 dX5_begin_65 (lv_at hl 1 rfl) ?_
                refine lv_aload_n hX0 hB0 dX5_begin_67 rfl (lv_at hl 2 rfl) ?_
                refine z_get (Cn := RX5) (T := TX5) (N := 11) CX hW (v := .int (zI ((zflead d lc2).1))) ((va_up_ne _ _ (by omega)).trans (va_up_self _ _ _)) rfl (fun w h => List.mem_cons_of_mem _ (List.mem_append_left _ (List.mem_append_left _ (List.mem_append_right _ h)))) 8 (by decide) (List.mem_of_getElem? (i := 6) rfl) rfl rfl dX5_begin_68 ?_
                refine z_icmp_lt (tgt := 83) CX dX5_begin_71 (by decide) (by constructor <;> omega) (by constructor <;> omega) (fun c_71 => ?_) (fun c_71 => ?_)
                ·
                  refine lv_aload_n hX0 hB0 dX5_begin_83 rfl (lv_at hl 2 rfl) ?_
                  refine z_get (Cn := RX5) (T := TX5) (N := 11) CX hW (v := .int (zI wd1)) ((va_up_ne _ _ (by omega)).trans (va_up_self _ _ _)) rfl (fun w h => List.mem_cons_of_mem _ (List.mem_append_left _ (List.mem_append_left _ (List.mem_append_right _ h)))) 10 (by decide) (List.mem_of_getElem? (i := 5) rfl) rfl rfl dX5_begin_84 ?_
                  refine lv_bipush (v := zI 94) hX0 hB0 dX5_begin_87 (by decide) ?_
                  refine z_icmp_ge (tgt := 96) CX dX5_begin_89 (by decide) (by constructor <;> omega) (by constructor <;> omega) (fun c_89 => ?_) (fun c_89 => ?_)
                  ·
                    refine lv_iconst (v := zI 0) hX0 hB0 dX5_begin_96 rfl ?_
                    exact hJ97 0 (by omega) H locs ls hW (lv_sub hl [0, 1, 2, 3, 4, 5, 6] rfl)
                  ·
                    refine lv_iconst (v := zI 1) hX0 hB0 dX5_begin_92 rfl ?_
                    refine lv_goto (tgt := 97) hX0 hB0 dX5_begin_93 (by decide) ?_
                    exact hJ97 1 (by omega) H locs ls hW (lv_sub hl [0, 1, 2, 3, 4, 5, 6] rfl)
                ·
                  refine lv_iload hX0 hB0 dX5_begin_74 (lv_at hl 0 rfl) ?_
                  refine lv_aload_n hX0 hB0 dX5_begin_76 rfl (lv_at hl 2 rfl) ?_
                  refine z_get (Cn := RX5) (T := TX5) (N := 11) CX hW (v := .int (zI ((zflead d lc2).2))) ((va_up_ne _ _ (by omega)).trans (va_up_self _ _ _)) rfl (fun w h => List.mem_cons_of_mem _ (List.mem_append_left _ (List.mem_append_left _ (List.mem_append_right _ h)))) 9 (by decide) (List.mem_of_getElem? (i := 7) rfl) rfl rfl dX5_begin_77 ?_
                  refine z_icmp_ge (tgt := 96) CX dX5_begin_80 (by decide) (by constructor <;> omega) (by constructor <;> omega) (fun c_80 => ?_) (fun c_80 => ?_)
                  ·
                    refine lv_iconst (v := zI 0) hX0 hB0 dX5_begin_96 rfl ?_
                    exact hJ97 0 (by omega) H locs ls hW (lv_sub hl [0, 1, 2, 3, 4, 5, 6] rfl)
                  ·
                    refine lv_aload_n hX0 hB0 dX5_begin_83 rfl (lv_at hl 2 rfl) ?_
                    refine z_get (Cn := RX5) (T := TX5) (N := 11) CX hW (v := .int (zI wd1)) ((va_up_ne _ _ (by omega)).trans (va_up_self _ _ _)) rfl (fun w h => List.mem_cons_of_mem _ (List.mem_append_left _ (List.mem_append_left _ (List.mem_append_right _ h)))) 10 (by decide) (List.mem_of_getElem? (i := 5) rfl) rfl rfl dX5_begin_84 ?_
                    refine lv_bipush (v := zI 94) hX0 hB0 dX5_begin_87 (by decide) ?_
                    refine z_icmp_ge (tgt := 96) CX dX5_begin_89 (by decide) (by constructor <;> omega) (by constructor <;> omega) (fun c_89 => ?_) (fun c_89 => ?_)
                    ·
                      refine lv_iconst (v := zI 0) hX0 hB0 dX5_begin_96 rfl ?_
                      exact hJ97 0 (by omega) H locs ls hW (lv_sub hl [0, 1, 2, 3, 4, 5, 6] rfl)
                    ·
                      refine lv_iconst (v := zI 1) hX0 hB0 dX5_begin_92 rfl ?_
                      refine lv_goto (tgt := 97) hX0 hB0 dX5_begin_93 (by decide) ?_
                      exact hJ97 1 (by omega) H locs ls hW (lv_sub hl [0, 1, 2, 3, 4, 5, 6] rfl)
        exact hL43 _ 0 co wd1 ⟨by omega, Or.inr rfl, by rw [hS0]; exact (zfor_0 _ _ _).symm, by omega, by omega⟩ (Nat.lt_succ_self _) H locs ls hW (lv_sub hl [0, 1, 2, 3, 4, 5, 6] rfl)
  have hW := hW
  rw [show va_up f r (.inr (5, [.ref b, .ref (r + 1), .ref (r + 2), .ref (r + 3), .ref v2, .int (zI p2), .int (zI top2), .int (zI lc2), .int (zI ((zflead d lc2).1)), .int (zI ((zflead d lc2).2)), .int (zI 0)])) = va_up (va_up f r (.inr (5, [.ref b, .ref (r + 1), .ref (r + 2), .ref (r + 3), .ref v2, .int (zI p2), .int (zI top2), .int (zI lc2), .int (zI ((zflead d lc2).1)), .int (zI ((zflead d lc2).2)), .int (zI 0)]))) (r + 2) (zA cI 625 col) from by rw [va_up_id (a := (r + 2)) ((va_up_ne _ _ (by omega)).trans hG.2.2.1)]] at hW
  exact hL33 _ 0 col 0 ⟨by omega, Or.inr rfl, (zfor_0 _ _ _).symm, by omega, by omega⟩ (Nat.lt_succ_self _) H locs ls hW (lv_sub hl [0, 1, 2, 3, 4, 5] rfl)
/-- the SIZE of the ring, near: how much it takes -/
def zszS (d : Nat → Int) (p top lc : Int) (col : Nat → Int) : (Nat → Int) × Int := zcolm top (zflead d lc).1 (zflead d lc).2 col
def zsize (d e : Nat → Int) (p : Int) (R : Nat → Nat → Int) (col ln row : Nat → Int) : Int := (zszS d p 16 1 col).2 - (zam e d (zszS d p 16 1 col).1 (zflead d 1).1 (zflead d 1).2 p 16 1 (zszS d p 16 1 col).2 16 (R, fun _ => 0, ln, row, 0)).2.2.2.2
def znr_in (col : Nat → Int) (wd p i : Int) : Int → zRt → zRt := fun j s => if 0 ≤ col (i * 25 + j).toNat then
    (zspR s.2.1 s.1 wd wd p (zup (fun _ => 0) (col (i * 25 + j).toNat).toNat 1), zspK s.2.1 s.1 wd wd p (zup (fun _ => 0) (col (i * 25 + j).toNat).toNat 1), (zspan s.2.1 s.1 wd wd p (zup (fun _ => 0) (col (i * 25 + j).toNat).toNat 1)).2, s.2.2.2.1, s.2.2.2.2 + zsp1 s.2.1 s.1 wd wd p (zup (fun _ => 0) (col (i * 25 + j).toNat).toNat 1)) else s
def znr_out (col : Nat → Int) (wd p : Int) : Int → zRt → zRt := fun i s => zfor (znr_in col wd p i) 0 s (8 - i + 1 - 0).toNat
def znr (col : Nat → Int) (wd p : Int) (s : zRt) : zRt := zfor (znr_out col wd p) 0 s (9 - 0 : Int).toNat
def znear1 (d e : Nat → Int) (p : Int) (R : Nat → Nat → Int) (col ln row : Nat → Int) : zRt := zam e d (zszS d p 24 0 col).1 (zflead d 0).1 (zflead d 0).2 p 24 0 (zszS d p 24 0 col).2 (24 - ztop e) (R, fun _ => 0, ln, row, 0)
def znear (d e : Nat → Int) (p : Int) (R : Nat → Nat → Int) (col ln row : Nat → Int) : Int := (znr (zszS d p 24 0 col).1 (zszS d p 24 0 col).2 p ((znear1 d e p R col ln row).1, (znear1 d e p R col ln row).2.1, (znear1 d e p R col ln row).2.2.1, (znear1 d e p R col ln row).2.2.2.1, 0)).2.2.2.2
/-- what of a ring goes on: its space is any, its places have columns -/
def zRgA (cI cZ cM : ClassId) (g : Nat → va_E) (r b v : Nat) : Prop := ∃ (p top lc lx ly wd : Int) (row col ln : Nat → Int) (w lim p0 : Int) (R : Nat → Nat → Int) (K : Nat → Int), zRg cI g r b v p top lc lx ly wd row col ln ∧ (∀ k, -1 ≤ col k ∧ col k ≤ 93) ∧ zSpace cI cZ cM g b w lim p0 R K ∧ ∀ i, zcan 31 (R i)
set_option maxRecDepth 100000 in
set_option maxHeartbeats 4000000 in
/-- Ring.sizeOf -/
theorem c_sizeOf (l : Launch) {D : va_G} {cI cJ cZ cP cS cM : ClassId} {L : List Nat} {sz : Nat} {f : Nat → va_E} (r b v : Nat) (p top lc lx ly wd : Int) (row col ln : Nat → Int) (v2 vh : Nat) (d : Nat → Int) (h0 h : Nat) (e : Nat → Int) (w lim p0 : Int) (R : Nat → Nat → Int) (K : Nat → Int) (p2 : Int) (hG : zRg cI f r b v p top lc lx ly wd row col ln) (hv0 : f v2 = .inr (2, [.ref vh])) (hv1 : f vh = zA cI 25 d) (hd : zcan 31 d) (hvr : v2 < r ∨ r + 6 ≤ v2) (hvhr : vh < r ∨ r + 6 ≤ vh) (hf0 : f h0 = .inr (2, [.ref h])) (hf1 : f h = zA cI 25 e) (he : zcan 31 e) (hh0 : h0 < r ∨ r + 6 ≤ h0) (hh : h < r ∨ r + 6 ≤ h) (hS : zSpace cI cZ cM f b w lim p0 R K) (hR : ∀ i, zcan 31 (R i)) (hbr : b + 97 ≤ r ∨ r + 6 ≤ b) (hp : 2 ≤ p2 ∧ p2 ≤ 31) (hcol : ∀ k, -1 ≤ col k ∧ col k ≤ 93) (hvb : v2 < b ∨ b + 97 ≤ v2) (hvhb : vh < b ∨ b + 97 ≤ vh) (hhb0 : h0 < b ∨ b + 97 ≤ h0) (hhb : h < b ∨ b + 97 ≤ h) : zMi l yX5_sizeOf wsX5_sizeOf 5 120 D (zT cI cJ cZ cP cS cM) L sz f [.ref r, .ref v2, .ref h0, .int (zI p2)] (fun z g => z = zsize d e p2 R col ln row ∧ zFrR f g b r ∧ zRgA cI cZ cM g r b v2) := by
  refine zWalk.met (nL := 4) (ret := (some .int)) (cc := cX5_sizeOf) (by decide) rfl (Nat.le_of_ble_eq_true rfl) ?_
  intro pg en st mi ag bl mt cd ls CX hW hl
  have CX : zC pg st mi ag mt cd cX5_sizeOf 4 (some .int) RX5 wsX5_sizeOf := CX
  generalize hQ : MQ bl _ ag st 0 0 _ = Q
  have hX0 := CX.1
  have hB0 := CX.2.1
  have hl : lv_has ls 4 [(0, .ref r), (1, .ref v2), (2, .ref h0), (3, .int (zI p2))] := hl
  obtain ⟨H, eH⟩ : ∃ H, H = st.heap := ⟨_, rfl⟩
  obtain ⟨locs, eL⟩ : ∃ L : List Loc, L = [] := ⟨_, rfl⟩
  have hW : zW D (zT cI cJ cZ cP cS cM) L (zQ L sz) st f st.heap H locs := by rw [eH, eL]; exact hW
  suffices hgo : W pg l en ({ frames := 5, cells := 0, slots := 0, locals := 120 } : Room) st mi ag bl mt cd H locs 0 0 Q (F0 mi 0 ls []) by rw [eH, eL] at hgo; exact hgo
  clear eH eL
  refine lv_aload_n hX0 hB0 dX5_sizeOf_0 rfl (lv_at hl 0 rfl) ?_
  refine lv_aload_n hX0 hB0 dX5_sizeOf_1 rfl (lv_at hl 1 rfl) ?_
  refine lv_bipush (v := zI 16) hX0 hB0 dX5_sizeOf_2 (by decide) ?_
  refine lv_iconst (v := zI 1) hX0 hB0 dX5_sizeOf_4 rfl ?_
  refine lv_iload_n hX0 hB0 dX5_sizeOf_5 rfl (lv_at hl 3 rfl) ?_
  refine z_callv hW (va_runV (C := RX5) (As := [.ref v2, .int (zI 16), .int (zI 1), .int (zI p2)]) (rest := []) CX.fix (c_rbegin l (f := f) r b v p top lc lx ly wd row col ln v2 vh d w lim p0 R K p2 16 1 ⟨hG.1, hG.2.1, hG.2.2.1, hG.2.2.2⟩ hv0 hv1 (by first | assumption | exact zcan_le (by assumption) (by omega)) (by omega) (by omega) hS (by omega) (by omega) (by omega) (by first | exact Or.inl rfl | exact Or.inr rfl | omega) hcol) (cwV 4 CX.fix.2.2.2.2 gX5_sizeOf_X5_begin rfl rfl rfl (by decide +kernel) ⟨Nat.le_of_ble_eq_true rfl, Nat.le_of_ble_eq_true rfl⟩) (z_preV CX hW (r := (RX5, TX5, 11)) hG.1 rfl) rfl rfl hl.1 rfl (lv_room (Nat.le_of_ble_eq_true rfl)) dX5_sizeOf_6 ⟨Nat.zero_le _, Nat.zero_le _⟩) (fun gn H locs hok6 hW => ?_)
  obtain ⟨g6, eg6⟩ : ∃ q, q = gn := ⟨_, rfl⟩
  rw [← eg6] at hW hok6
  clear eg6
  obtain ⟨hfr6, hrg6, hsp6, hw06, hw16, hcl6⟩ := hok6
  have hfl := zflead_rng d 1
  refine lv_aload_n hX0 hB0 dX5_sizeOf_9 rfl (lv_at hl 0 rfl) ?_
  refine z_get (Cn := RX5) (T := TX5) (N := 11) CX hW (v := .int (zI ((zcolm 16 (zflead d 1).1 (zflead d 1).2 col).2))) hrg6.1 rfl (fun w h => List.mem_cons_of_mem _ (List.mem_append_left _ (List.mem_append_left _ (List.mem_append_right _ h)))) 10 (by decide) (List.mem_of_getElem? (i := 1) rfl) rfl rfl dX5_sizeOf_10 ?_
  refine lv_aload_n hX0 hB0 dX5_sizeOf_13 rfl (lv_at hl 0 rfl) ?_
  refine lv_aload_n hX0 hB0 dX5_sizeOf_14 rfl (lv_at hl 2 rfl) ?_
  refine lv_bipush (v := zI 16) hX0 hB0 dX5_sizeOf_15 (by decide) ?_
  refine z_calli hW (va_runV (C := RX5) (As := [.ref h0, .int (zI 16)]) (rest := [.int (zI ((zcolm 16 (zflead d 1).1 (zflead d 1).2 col).2))]) CX.fix (c_addMultiples l (f := g6) r b v2 p2 16 1 ((zflead d 1).1) ((zflead d 1).2) ((zcolm 16 (zflead d 1).1 (zflead d 1).2 col).2) row ((zcolm 16 (zflead d 1).1 (zflead d 1).2 col).1) ln vh d h0 h e R ((fun _ => 0)) 16 ⟨hrg6.1, hrg6.2.1, hrg6.2.2.1, hrg6.2.2.2⟩ (by omega) (by omega) ((hfr6 _ (by omega)).trans hv0) ((hfr6 _ (by omega)).trans hv1) (by first | assumption | exact zcan_le (by assumption) (by omega)) (by omega) (by omega) (by omega) (by omega) (by omega) (by omega) ((hfr6 _ (by omega)).trans hf0) ((hfr6 _ (by omega)).trans hf1) (by first | assumption | exact zcan_le (by assumption) (by omega)) (by omega) (by omega) hsp6 hR (by omega) (by omega) hcl6 (by omega) (by omega) (by omega) (by omega) (by omega)) (cwV 2 CX.fix.2.2.2.2 gX5_sizeOf_X5_addMultiples rfl rfl rfl (by decide +kernel) ⟨Nat.le_of_ble_eq_true rfl, Nat.le_of_ble_eq_true rfl⟩) (z_preV CX hW (r := (RX5, TX5, 11)) hrg6.1 rfl) rfl rfl hl.1 rfl (lv_room (Nat.le_of_ble_eq_true rfl)) dX5_sizeOf_17 ⟨Nat.zero_le _, Nat.zero_le _⟩) (fun zv gn H locs hok17 hW => ?_)
  obtain ⟨g17, eg17⟩ : ∃ q, q = gn := ⟨_, rfl⟩
  rw [← eg17] at hW hok17
  clear eg17
  obtain ⟨hz17, hz017, hz117, hfr17, hsp17, hgl17, hgw17, hgR17⟩ := hok17
  rw [hz17] at hz017 hz117
  have ez : zv = (zam e d ((zcolm 16 (zflead d 1).1 (zflead d 1).2 col).1) ((zflead d 1).1) ((zflead d 1).2) p2 16 1 ((zcolm 16 (zflead d 1).1 (zflead d 1).2 col).2) 16 (R, (fun _ => 0), ln, row, 0)).2.2.2.2 := hz17
  rw [ez]
  clear ez
  refine z_isub (z := ((zcolm 16 (zflead d 1).1 (zflead d 1).2 col).2) - ((zam e d ((zcolm 16 (zflead d 1).1 (zflead d 1).2 col).1) ((zflead d 1).1) ((zflead d 1).2) p2 16 1 ((zcolm 16 (zflead d 1).1 (zflead d 1).2 col).2) 16 (R, (fun _ => 0), ln, row, 0)).2.2.2.2)) CX dX5_sizeOf_20 rfl ?_
  rw [← hQ]
  exact z_iret (z := ((zcolm 16 (zflead d 1).1 (zflead d 1).2 col).2) - ((zam e d ((zcolm 16 (zflead d 1).1 (zflead d 1).2 col).1) ((zflead d 1).1) ((zflead d 1).2) p2 16 1 ((zcolm 16 (zflead d 1).1 (zflead d 1).2 col).2) 16 (R, (fun _ => 0), ln, row, 0)).2.2.2.2)) CX hW (by exact ⟨rfl, fun q hq => ((hfr17 _ (by omega)).trans ((hfr6 _ (by omega)).trans rfl)), _, _, _, _, _, _, _, _, _, _, _, _, _, _, ⟨((hfr17 _ (by omega)).trans hrg6.1), hgw17, ((hfr17 _ (by omega)).trans hrg6.2.2.1), hgl17⟩, hcl6, hsp17, hgR17⟩) rfl dX5_sizeOf_21
set_option maxRecDepth 100000 in
set_option maxHeartbeats 4000000 in
/-- Ring.nearOf -/
theorem c_nearOf (l : Launch) {D : va_G} {cI cJ cZ cP cS cM : ClassId} {L : List Nat} {sz : Nat} {f : Nat → va_E} (r b v : Nat) (p top lc lx ly wd : Int) (row col ln : Nat → Int) (v2 vh : Nat) (d : Nat → Int) (h0 h : Nat) (e : Nat → Int) (w lim p0 : Int) (R : Nat → Nat → Int) (K : Nat → Int) (p2 : Int) (hG : zRg cI f r b v p top lc lx ly wd row col ln) (hv0 : f v2 = .inr (2, [.ref vh])) (hv1 : f vh = zA cI 25 d) (hd : zcan 31 d) (hvr : v2 < r ∨ r + 6 ≤ v2) (hvhr : vh < r ∨ r + 6 ≤ vh) (hf0 : f h0 = .inr (2, [.ref h])) (hf1 : f h = zA cI 25 e) (he : zcan 31 e) (hh0 : h0 < r ∨ r + 6 ≤ h0) (hh : h < r ∨ r + 6 ≤ h) (hS : zSpace cI cZ cM f b w lim p0 R K) (hR : ∀ i, zcan 31 (R i)) (hbr : b + 97 ≤ r ∨ r + 6 ≤ b) (hp : 2 ≤ p2 ∧ p2 ≤ 31) (hcol : ∀ k, -1 ≤ col k ∧ col k ≤ 93) (hvb : v2 < b ∨ b + 97 ≤ v2) (hvhb : vh < b ∨ b + 97 ≤ vh) (hhb0 : h0 < b ∨ b + 97 ≤ h0) (hhb : h < b ∨ b + 97 ≤ h) (hte : 0 ≤ ztop e) : zMi l yX5_nearOf wsX5_nearOf 5 120 D (zT cI cJ cZ cP cS cM) L sz f [.ref r, .ref v2, .ref h0, .int (zI p2)] (fun z g => z = znear d e p2 R col ln row ∧ zFrR f g b r ∧ zRgA cI cZ cM g r b v2) := by
  refine zWalk.met (nL := 8) (ret := (some .int)) (cc := cX5_nearOf) (by decide) rfl (Nat.le_of_ble_eq_true rfl) ?_
  intro pg en st mi ag bl mt cd ls CX hW hl
  have CX : zC pg st mi ag mt cd cX5_nearOf 8 (some .int) RX5 wsX5_nearOf := CX
  generalize hQ : MQ bl _ ag st 0 0 _ = Q
  have hX0 := CX.1
  have hB0 := CX.2.1
  have hl : lv_has ls 8 [(0, .ref r), (1, .ref v2), (2, .ref h0), (3, .int (zI p2))] := hl
  obtain ⟨H, eH⟩ : ∃ H, H = st.heap := ⟨_, rfl⟩
  obtain ⟨locs, eL⟩ : ∃ L : List Loc, L = [] := ⟨_, rfl⟩
  have hW : zW D (zT cI cJ cZ cP cS cM) L (zQ L sz) st f st.heap H locs := by rw [eH, eL]; exact hW
  suffices hgo : W pg l en ({ frames := 5, cells := 0, slots := 0, locals := 120 } : Room) st mi ag bl mt cd H locs 0 0 Q (F0 mi 0 ls []) by rw [eH, eL] at hgo; exact hgo
  clear eH eL
  refine lv_aload_n hX0 hB0 dX5_nearOf_0 rfl (lv_at hl 0 rfl) ?_
  refine lv_aload_n hX0 hB0 dX5_nearOf_1 rfl (lv_at hl 1 rfl) ?_
  refine lv_bipush (v := zI 24) hX0 hB0 dX5_nearOf_2 (by decide) ?_
  refine lv_iconst (v := zI 0) hX0 hB0 dX5_nearOf_4 rfl ?_
  refine lv_iload_n hX0 hB0 dX5_nearOf_5 rfl (lv_at hl 3 rfl) ?_
  refine z_callv hW (va_runV (C := RX5) (As := [.ref v2, .int (zI 24), .int (zI 0), .int (zI p2)]) (rest := []) CX.fix (c_rbegin l (f := f) r b v p top lc lx ly wd row col ln v2 vh d w lim p0 R K p2 24 0 ⟨hG.1, hG.2.1, hG.2.2.1, hG.2.2.2⟩ hv0 hv1 (by first | assumption | exact zcan_le (by assumption) (by omega)) (by omega) (by omega) hS (by omega) (by omega) (by omega) (by first | exact Or.inl rfl | exact Or.inr rfl | omega) hcol) (cwV 4 CX.fix.2.2.2.2 gX5_nearOf_X5_begin rfl rfl rfl (by decide +kernel) ⟨Nat.le_of_ble_eq_true rfl, Nat.le_of_ble_eq_true rfl⟩) (z_preV CX hW (r := (RX5, TX5, 11)) hG.1 rfl) rfl rfl hl.1 rfl (lv_room (Nat.le_of_ble_eq_true rfl)) dX5_nearOf_6 ⟨Nat.zero_le _, Nat.zero_le _⟩) (fun gn H locs hok6 hW => ?_)
  obtain ⟨g6, eg6⟩ : ∃ q, q = gn := ⟨_, rfl⟩
  rw [← eg6] at hW hok6
  clear eg6
  obtain ⟨hfr6, hrg6, hsp6, hw06, hw16, hcl6⟩ := hok6
  have hfl := zflead_rng d 0
  refine lv_aload_n hX0 hB0 dX5_nearOf_9 rfl (lv_at hl 0 rfl) ?_
  refine lv_aload_n hX0 hB0 dX5_nearOf_10 rfl (lv_at hl 2 rfl) ?_
  refine lv_bipush (v := zI 24) hX0 hB0 dX5_nearOf_11 (by decide) ?_
  refine lv_aload_n hX0 hB0 dX5_nearOf_13 rfl (lv_at hl 2 rfl) ?_
  refine z_calli hW (va_runV (C := RX2) (As := []) (rest := [.int (zI 24), .ref h0, .ref r]) CX.fix (c_top l (f := g6) h0 h e ((hfr6 _ (by omega)).trans hf0) ((hfr6 _ (by omega)).trans hf1) (by first | assumption | exact zcan_le (by assumption) (by omega))) (cwV 0 CX.fix.2.2.2.2 gX5_nearOf_X2_top rfl rfl rfl (by decide +kernel) ⟨Nat.le_of_ble_eq_true rfl, Nat.le_of_ble_eq_true rfl⟩) (z_preV CX hW (r := (RX2, TX2, 1)) ((hfr6 _ (by omega)).trans hf0) rfl) rfl rfl hl.1 rfl (lv_room (Nat.le_of_ble_eq_true rfl)) dX5_nearOf_14 ⟨Nat.zero_le _, Nat.zero_le _⟩) (fun zv gn H locs hok14 hW => ?_)
  obtain ⟨ez, eg⟩ := hok14
  have eg : gn = g6 := eg
  rw [eg] at hW
  clear eg
  have ez : zv = ztop e := ez
  rw [ez]
  clear ez
  have htp14 := ztop_rng e
  refine z_isub (z := 24 - (ztop e)) CX dX5_nearOf_17 rfl ?_
  refine z_calli hW (va_runV (C := RX5) (As := [.ref h0, .int (zI (24 - (ztop e)))]) (rest := []) CX.fix (c_addMultiples l (f := g6) r b v2 p2 24 0 ((zflead d 0).1) ((zflead d 0).2) ((zcolm 24 (zflead d 0).1 (zflead d 0).2 col).2) row ((zcolm 24 (zflead d 0).1 (zflead d 0).2 col).1) ln vh d h0 h e R ((fun _ => 0)) (24 - (ztop e)) ⟨hrg6.1, hrg6.2.1, hrg6.2.2.1, hrg6.2.2.2⟩ (by omega) (by omega) ((hfr6 _ (by omega)).trans hv0) ((hfr6 _ (by omega)).trans hv1) (by first | assumption | exact zcan_le (by assumption) (by omega)) (by omega) (by omega) (by omega) (by omega) (by omega) (by omega) ((hfr6 _ (by omega)).trans hf0) ((hfr6 _ (by omega)).trans hf1) (by first | assumption | exact zcan_le (by assumption) (by omega)) (by omega) (by omega) hsp6 hR (by omega) (by omega) hcl6 (by omega) (by omega) (by omega) (by omega) (by omega)) (cwV 2 CX.fix.2.2.2.2 gX5_nearOf_X5_addMultiples rfl rfl rfl (by decide +kernel) ⟨Nat.le_of_ble_eq_true rfl, Nat.le_of_ble_eq_true rfl⟩) (z_preV CX hW (r := (RX5, TX5, 11)) hrg6.1 rfl) rfl rfl hl.1 rfl (lv_room (Nat.le_of_ble_eq_true rfl)) dX5_nearOf_18 ⟨Nat.zero_le _, Nat.zero_le _⟩) (fun zv gn H locs hok18 hW => ?_)
  obtain ⟨g18, eg18⟩ : ∃ q, q = gn := ⟨_, rfl⟩
  rw [← eg18] at hW hok18
  clear eg18
  obtain ⟨hz18, hz018, hz118, hfr18, hsp18, hgl18, hgw18, hgR18⟩ := hok18
  rw [hz18] at hz018 hz118
  have ez : zv = (zam e d ((zcolm 24 (zflead d 0).1 (zflead d 0).2 col).1) ((zflead d 0).1) ((zflead d 0).2) p2 24 0 ((zcolm 24 (zflead d 0).1 (zflead d 0).2 col).2) (24 - (ztop e)) (R, (fun _ => 0), ln, row, 0)).2.2.2.2 := hz18
  rw [ez]
  clear ez
  refine lv_pop hX0 hB0 dX5_nearOf_21 rfl ?_
  have hclb : ∀ k, -1 ≤ (zszS d p2 24 0 col).1 k ∧ (zszS d p2 24 0 col).1 k ≤ 93 := hcl6
  have hwb : 0 ≤ (zszS d p2 24 0 col).2 ∧ (zszS d p2 24 0 col).2 ≤ 94 := ⟨hw06, hw16⟩
  obtain ⟨S9, hS9⟩ : ∃ q : zRt, q = ((znear1 d e p2 R col ln row).1, (znear1 d e p2 R col ln row).2.1, (znear1 d e p2 R col ln row).2.2.1, (znear1 d e p2 R col ln row).2.2.2.1, 0) := ⟨_, rfl⟩
  refine lv_iconst (v := zI 0) hX0 hB0 dX5_nearOf_22 rfl ?_
  refine lv_istore (lv' := [(4, .int (zI 0)), (0, .ref r), (1, .ref v2), (2, .ref h0), (3, .int (zI p2))]) hX0 hB0 dX5_nearOf_23 hl (by decide) rfl (fun ls hl => ?_)
  refine lv_iconst (v := zI 0) hX0 hB0 dX5_nearOf_25 rfl ?_
  refine lv_istore (lv' := [(5, .int (zI 0)), (4, .int (zI 0)), (0, .ref r), (1, .ref v2), (2, .ref h0), (3, .int (zI p2))]) hX0 hB0 dX5_nearOf_26 hl (by decide) rfl (fun ls hl => ?_)
  have hL28 : ∀ (fu : Nat) (i : Int) (g : Nat → va_E) (R1 : Nat → Nat → Int) (K1 : Nat → Int) (l1 : Nat → Int) (w1 : Nat → Int) (sm : Int), (zFrR f g b r ∧ zRg cI g r b v2 p2 24 0 (zflead d 0).1 (zflead d 0).2 (zszS d p2 24 0 col).2 w1 (zszS d p2 24 0 col).1 l1 ∧ zSpace cI cZ cM g b (zszS d p2 24 0 col).2 (zszS d p2 24 0 col).2 p2 R1 K1 ∧ (∀ i, zcan 31 (R1 i)) ∧ 0 ≤ i ∧ i ≤ 9 ∧ 0 ≤ sm ∧ sm ≤ 9 * i ∧ (R1, K1, l1, w1, sm) = zfor (znr_out (zszS d p2 24 0 col).1 (zszS d p2 24 0 col).2 p2) 0 S9 (i - 0).toNat) → (9 - i).toNat < fu → ∀ (H : Heap) (locs : List Loc) (ls : Array Slot), zW D (zT cI cJ cZ cP cS cM) L (zQ L sz) st g st.heap H locs → lv_has ls 8 [(5, .int (zI i)), (4, .int (zI sm)), (0, .ref r), (1, .ref v2), (2, .ref h0), (3, .int (zI p2))] → W pg l en ({ frames := 5, cells := 0, slots := 0, locals := 120 } : Room) st mi ag bl mt cd H locs 0 0 Q (F0 mi 28 ls []) := by
    intro fu
    induction fu with
    | zero => intro i g R1 K1 l1 w1 sm _ hfu; exact absurd hfu (Nat.not_lt_zero _)
    | succ fu ih28 =>
      intro i g R1 K1 l1 w1 sm hinv28 hfu28 H locs ls hW hl
      obtain ⟨hfr, hrg, hsp, hR1, hi0, hi1, hs0, hs1, hst⟩ := hinv28
      refine lv_iload hX0 hB0 dX5_nearOf_28 (lv_at hl 0 rfl) ?_
      refine lv_bipush (v := zI 8) hX0 hB0 dX5_nearOf_30 (by decide) ?_
      refine z_icmp_gt (tgt := 116) CX dX5_nearOf_32 (by decide) (by constructor <;> omega) (by constructor <;> omega) (fun c_32 => ?_) (fun c_32 => ?_)
      ·
        refine lv_iload hX0 hB0 dX5_nearOf_116 (lv_at hl 1 rfl) ?_
        rw [← hQ]
        refine z_iret (z := sm) CX hW ?_ rfl dX5_nearOf_118
        have hf : ((R1, K1, l1, w1, sm) : zRt) = znr (zszS d p2 24 0 col).1 (zszS d p2 24 0 col).2 p2 S9 := by rw [hst]; unfold znr; congr 1; omega
        rw [hS9] at hf
        have hf2 : sm = znear d e p2 R col ln row := congrArg (fun q : zRt => q.2.2.2.2) hf
        exact ⟨hf2, hfr, _, _, _, _, _, _, _, _, _, _, _, _, _, _, hrg, hclb, hsp, hR1⟩
      ·
        obtain ⟨S0, hS0⟩ : ∃ q : zRt, q = (R1, K1, l1, w1, sm) := ⟨_, rfl⟩
        rw [← hS0] at hst
        refine lv_iconst (v := zI 0) hX0 hB0 dX5_nearOf_35 rfl ?_
        refine lv_istore (lv' := [(6, .int (zI 0)), (5, .int (zI i)), (4, .int (zI sm)), (0, .ref r), (1, .ref v2), (2, .ref h0), (3, .int (zI p2))]) hX0 hB0 dX5_nearOf_36 hl (by decide) rfl (fun ls hl => ?_)
        have hL38 : ∀ (fu : Nat) (j : Int) (g : Nat → va_E) (R1 : Nat → Nat → Int) (K1 : Nat → Int) (l1 : Nat → Int) (w1 : Nat → Int) (sm : Int), (zFrR f g b r ∧ zRg cI g r b v2 p2 24 0 (zflead d 0).1 (zflead d 0).2 (zszS d p2 24 0 col).2 w1 (zszS d p2 24 0 col).1 l1 ∧ zSpace cI cZ cM g b (zszS d p2 24 0 col).2 (zszS d p2 24 0 col).2 p2 R1 K1 ∧ (∀ i, zcan 31 (R1 i)) ∧ 0 ≤ j ∧ j ≤ 8 - i + 1 ∧ 0 ≤ sm ∧ sm ≤ 9 * i + j ∧ (R1, K1, l1, w1, sm) = zfor (znr_in (zszS d p2 24 0 col).1 (zszS d p2 24 0 col).2 p2 i) 0 S0 (j - 0).toNat) → (8 - i + 1 - j).toNat < fu → ∀ (H : Heap) (locs : List Loc) (ls : Array Slot), zW D (zT cI cJ cZ cP cS cM) L (zQ L sz) st g st.heap H locs → lv_has ls 8 [(6, .int (zI j)), (5, .int (zI i)), (4, .int (zI sm)), (0, .ref r), (1, .ref v2), (2, .ref h0), (3, .int (zI p2))] → W pg l en ({ frames := 5, cells := 0, slots := 0, locals := 120 } : Room) st mi ag bl mt cd H locs 0 0 Q (F0 mi 38 ls []) := by
          intro fu
          induction fu with
          | zero => intro j g R1 K1 l1 w1 sm _ hfu; exact absurd hfu (Nat.not_lt_zero _)
          | succ fu ih38 =>
            intro j g R1 K1 l1 w1 sm hinv38 hfu38 H locs ls hW hl
            obtain ⟨hfr, hrg, hsp, hR1, hj0, hj1, hs0, hs1, hsj⟩ := hinv38
            refine lv_iload hX0 hB0 dX5_nearOf_38 (lv_at hl 0 rfl) ?_
            refine lv_bipush (v := zI 8) hX0 hB0 dX5_nearOf_40 (by decide) ?_
            refine lv_iload hX0 hB0 dX5_nearOf_42 (lv_at hl 1 rfl) ?_
            refine z_isub (z := 8 - i) CX dX5_nearOf_44 rfl ?_
            refine z_icmp_gt (tgt := 110) CX dX5_nearOf_45 (by decide) (by constructor <;> omega) (by constructor <;> omega) (fun c_45 => ?_) (fun c_45 => ?_)
            ·
              refine lv_iinc (v := zI (i + 1)) (lv' := [(5, .int (zI (i + 1))), (6, .int (zI j)), (4, .int (zI sm)), (0, .ref r), (1, .ref v2), (2, .ref h0), (3, .int (zI p2))]) hX0 hB0 dX5_nearOf_110 hl (k := 1) rfl (zI_add _ _) (by decide) rfl (fun ls hl => ?_)
              refine lv_goto (tgt := 28) hX0 hB0 dX5_nearOf_113 (by decide) ?_
              exact ih28 (i + 1) g R1 K1 l1 w1 sm ⟨hfr, hrg, hsp, hR1, by omega, by omega, by omega, by omega, by rw [zfor_s _ _ _ hi0, ← hst, hsj]; show zfor _ 0 _ _ = zfor _ 0 _ _; rw [show (j - 0).toNat = (8 - i + 1 - 0).toNat by omega]⟩ (by omega) H locs ls hW (lv_sub hl [0, 2, 3, 4, 5, 6] rfl)
            ·
              refine lv_aload_n hX0 hB0 dX5_nearOf_48 rfl (lv_at hl 3 rfl) ?_
              refine z_get (Cn := RX5) (T := TX5) (N := 11) CX hW (v := .ref (r + 2)) hrg.1 rfl (fun w h => List.mem_cons_of_mem _ (List.mem_append_left _ (List.mem_append_left _ (List.mem_append_right _ h)))) 2 (by decide) (List.mem_of_getElem? (i := 1) rfl) rfl rfl dX5_nearOf_49 ?_
              refine lv_iload hX0 hB0 dX5_nearOf_52 (lv_at hl 1 rfl) ?_
              refine lv_bipush (v := zI 25) hX0 hB0 dX5_nearOf_54 (by decide) ?_
              refine z_imul (z := i * 25) CX dX5_nearOf_56 rfl ?_
              refine lv_iload hX0 hB0 dX5_nearOf_57 (lv_at hl 0 rfl) ?_
              refine z_iadd (z := (i * 25) + j) CX dX5_nearOf_59 rfl ?_
              refine z_iald (z := ((zszS d p2 24 0 col).1) (((i * 25) + j).toNat)) CX hW hrg.2.2.1 0 rfl (by refine ⟨?_, ?_, ?_⟩ <;> omega) rfl dX5_nearOf_60 ?_
              have hr1 := hclb (((i * 25) + j).toNat)
              refine lv_istore (lv' := [(7, .int (zI (((zszS d p2 24 0 col).1) (((i * 25) + j).toNat)))), (6, .int (zI j)), (5, .int (zI i)), (4, .int (zI sm)), (0, .ref r), (1, .ref v2), (2, .ref h0), (3, .int (zI p2))]) hX0 hB0 dX5_nearOf_61 hl (by decide) rfl (fun ls hl => ?_)
              refine lv_iload hX0 hB0 dX5_nearOf_63 (lv_at hl 0 rfl) ?_
              refine z_if_lt (tgt := 104) CX dX5_nearOf_65 (by decide) (by constructor <;> omega) (fun c_65 => ?_) (fun c_65 => ?_)
              ·
                refine lv_iinc (v := zI (j + 1)) (lv' := [(6, .int (zI (j + 1))), (7, .int (zI (((zszS d p2 24 0 col).1) (((i * 25) + j).toNat)))), (5, .int (zI i)), (4, .int (zI sm)), (0, .ref r), (1, .ref v2), (2, .ref h0), (3, .int (zI p2))]) hX0 hB0 dX5_nearOf_104 hl (k := 1) rfl (zI_add _ _) (by decide) rfl (fun ls hl => ?_)
                refine lv_goto (tgt := 38) hX0 hB0 dX5_nearOf_107 (by decide) ?_
                exact ih38 (j + 1) g R1 K1 l1 w1 sm ⟨hfr, hrg, hsp, hR1, by omega, by omega, by omega, by omega, by rw [zfor_s _ _ _ hj0, ← hsj]; exact (if_neg (by omega)).symm⟩ (by omega) H locs ls hW (lv_sub hl [0, 2, 3, 4, 5, 6, 7] rfl)
              ·
                refine lv_aload_n hX0 hB0 dX5_nearOf_68 rfl (lv_at hl 4 rfl) ?_
                refine z_callv hW (va_runV (C := RX5) (As := []) (rest := []) CX.fix (c_clearLine l (f := g) r b v2 p2 24 0 ((zflead d 0).1) ((zflead d 0).2) ((zszS d p2 24 0 col).2) w1 ((zszS d p2 24 0 col).1) l1 ⟨hrg.1, hrg.2.1, hrg.2.2.1, hrg.2.2.2⟩) (cwV 0 CX.fix.2.2.2.2 gX5_nearOf_X5_clearLine rfl rfl rfl (by decide +kernel) ⟨Nat.le_of_ble_eq_true rfl, Nat.le_of_ble_eq_true rfl⟩) (z_preV CX hW (r := (RX5, TX5, 11)) hrg.1 rfl) rfl rfl hl.1 rfl (lv_room (Nat.le_of_ble_eq_true rfl)) dX5_nearOf_69 ⟨Nat.zero_le _, Nat.zero_le _⟩) (fun gn H locs hok69 hW => ?_)
                have eg : gn = va_up g (r + 3) (zA cI 94 ((fun _ => 0))) := hok69
                rw [eg] at hW
                clear eg
                have hl1c : zcan p2 (zup (fun _ => 0) ((zszS d p2 24 0 col).1 (i * 25 + j).toNat).toNat 1) := zcan_up (fun _ => by show (0 : Int) ≤ 0 ∧ (0 : Int) < p2; omega) _ (by omega)
                refine lv_aload_n hX0 hB0 dX5_nearOf_72 rfl (lv_at hl 4 rfl) ?_
                refine z_get (Cn := RX5) (T := TX5) (N := 11) CX hW (v := .ref (r + 3)) ((va_up_ne _ _ (by omega)).trans hrg.1) rfl (fun w h => List.mem_cons_of_mem _ (List.mem_append_left _ (List.mem_append_left _ (List.mem_append_right _ h)))) 3 (by decide) (List.mem_of_getElem? (i := 2) rfl) rfl rfl dX5_nearOf_73 ?_
                refine lv_iload hX0 hB0 dX5_nearOf_76 (lv_at hl 0 rfl) ?_
                refine lv_iconst (v := zI 1) hX0 hB0 dX5_nearOf_78 rfl ?_
                refine z_iast CX hW (va_up_self _ _ _) 0 rfl (by have hcq := hclb (i * 25 + j).toNat; refine ⟨?_, ?_, ?_⟩ <;> omega) (g := va_up g (r + 3) (zA cI 94 (zup ((fun _ => 0)) ((((zszS d p2 24 0 col).1) (((i * 25) + j).toNat)).toNat) 1))) va_up_up dX5_nearOf_79 (fun H locs hW => ?_)
                refine lv_iload hX0 hB0 dX5_nearOf_80 (lv_at hl 3 rfl) ?_
                refine lv_aload_n hX0 hB0 dX5_nearOf_82 rfl (lv_at hl 4 rfl) ?_
                refine z_get (Cn := RX5) (T := TX5) (N := 11) CX hW (v := .ref b) ((va_up_ne _ _ (by omega)).trans hrg.1) rfl (fun w h => List.mem_cons_of_mem _ (List.mem_append_left _ (List.mem_append_left _ (List.mem_append_right _ h)))) 0 (by decide) (List.mem_of_getElem? (i := 3) rfl) rfl rfl dX5_nearOf_83 ?_
                refine lv_aload_n hX0 hB0 dX5_nearOf_86 rfl (lv_at hl 4 rfl) ?_
                refine z_get (Cn := RX5) (T := TX5) (N := 11) CX hW (v := .ref (r + 3)) ((va_up_ne _ _ (by omega)).trans hrg.1) rfl (fun w h => List.mem_cons_of_mem _ (List.mem_append_left _ (List.mem_append_left _ (List.mem_append_right _ h)))) 3 (by decide) (List.mem_of_getElem? (i := 2) rfl) rfl rfl dX5_nearOf_87 ?_
                refine z_calli hW (va_runV (C := RX8) (As := [.ref (r + 3)]) (rest := [.int (zI sm)]) CX.fix (c_spadd l (f := va_up g (r + 3) (zA cI 94 (zup ((fun _ => 0)) ((((zszS d p2 24 0 col).1) (((i * 25) + j).toNat)).toNat) 1))) b ((zszS d p2 24 0 col).2) ((zszS d p2 24 0 col).2) p2 R1 K1 (r + 3) 94 (zup ((fun _ => 0)) ((((zszS d p2 24 0 col).1) (((i * 25) + j).toNat)).toNat) 1) (hsp.same (fun q h1 h2 => ((va_up_ne _ _ (by omega)).trans rfl))) hR1 (va_up_self _ _ _) hl1c (by omega) (by omega) (by omega) (by omega) (by omega)) (cwV 1 CX.fix.2.2.2.2 gX5_nearOf_X8_add rfl rfl rfl (by decide +kernel) ⟨Nat.le_of_ble_eq_true rfl, Nat.le_of_ble_eq_true rfl⟩) (z_preV CX hW (r := (RX8, TX8, 5)) ((va_up_ne _ _ (by omega)).trans hsp.1) rfl) rfl rfl hl.1 rfl (lv_room (Nat.le_of_ble_eq_true rfl)) dX5_nearOf_90 ⟨Nat.zero_le _, Nat.zero_le _⟩) (fun zv gn H locs hok90 hW => ?_)
                obtain ⟨g90, eg90⟩ : ∃ q, q = gn := ⟨_, rfl⟩
                rw [← eg90] at hW hok90
                clear eg90
                obtain ⟨hz90, hfr90, hgt90, hsp90⟩ := hok90
                have ez : zv = zsp1 K1 R1 ((zszS d p2 24 0 col).2) ((zszS d p2 24 0 col).2) p2 (zup ((fun _ => 0)) ((((zszS d p2 24 0 col).1) (((i * 25) + j).toNat)).toNat) 1) := hz90
                rw [ez]
                clear ez
                have hb90 := zsp1_01 K1 R1 ((zszS d p2 24 0 col).2) ((zszS d p2 24 0 col).2) p2 (zup ((fun _ => 0)) ((((zszS d p2 24 0 col).1) (((i * 25) + j).toNat)).toNat) 1)
                refine z_if_eq (tgt := 100) CX dX5_nearOf_93 (by decide) (by constructor <;> omega) (fun c_93 => ?_) (fun c_93 => ?_)
                ·
                  refine lv_iconst (v := zI 0) hX0 hB0 dX5_nearOf_100 rfl ?_
                  refine z_iadd (z := sm + 0) CX dX5_nearOf_101 rfl ?_
                  refine lv_istore (lv' := [(4, .int (zI (sm + 0))), (7, .int (zI (((zszS d p2 24 0 col).1) (((i * 25) + j).toNat)))), (6, .int (zI j)), (5, .int (zI i)), (0, .ref r), (1, .ref v2), (2, .ref h0), (3, .int (zI p2))]) hX0 hB0 dX5_nearOf_102 hl (by decide) rfl (fun ls hl => ?_)
                  refine lv_iinc (v := zI (j + 1)) (lv' := [(6, .int (zI (j + 1))), (4, .int (zI (sm + 0))), (7, .int (zI (((zszS d p2 24 0 col).1) (((i * 25) + j).toNat)))), (5, .int (zI i)), (0, .ref r), (1, .ref v2), (2, .ref h0), (3, .int (zI p2))]) hX0 hB0 dX5_nearOf_104 hl (k := 2) rfl (zI_add _ _) (by decide) rfl (fun ls hl => ?_)
                  refine lv_goto (tgt := 38) hX0 hB0 dX5_nearOf_107 (by decide) ?_
                  exact ih38 (j + 1) g90 ((zspR K1 R1 ((zszS d p2 24 0 col).2) ((zszS d p2 24 0 col).2) p2 (zup ((fun _ => 0)) ((((zszS d p2 24 0 col).1) (((i * 25) + j).toNat)).toNat) 1))) ((zspK K1 R1 ((zszS d p2 24 0 col).2) ((zszS d p2 24 0 col).2) p2 (zup ((fun _ => 0)) ((((zszS d p2 24 0 col).1) (((i * 25) + j).toNat)).toNat) 1))) ((zspan K1 R1 ((zszS d p2 24 0 col).2) ((zszS d p2 24 0 col).2) p2 (zup ((fun _ => 0)) ((((zszS d p2 24 0 col).1) (((i * 25) + j).toNat)).toNat) 1)).2) w1 (sm + 0) ⟨fun q hq => ((hfr90 _ (by omega)).trans ((va_up_ne _ _ (by omega)).trans ((hfr _ (by omega)).trans rfl))), ⟨((hfr90 _ (by omega)).trans ((va_up_ne _ _ (by omega)).trans hrg.1)), ((hfr90 _ (by omega)).trans ((va_up_ne _ _ (by omega)).trans hrg.2.1)), ((hfr90 _ (by omega)).trans ((va_up_ne _ _ (by omega)).trans hrg.2.2.1)), hgt90⟩, hsp90, zspR_can (by omega) (by omega) hR1, by omega, by omega, by omega, by omega, by rw [zfor_s _ _ _ hj0, ← hsj]; refine Eq.trans ?_ (if_pos (by omega)).symm; show _ = (_, _, _, _, sm + zsp1 _ _ _ _ _ _); rw [show zsp1 K1 R1 (zszS d p2 24 0 col).2 (zszS d p2 24 0 col).2 p2 (zup (fun _ => 0) ((zszS d p2 24 0 col).1 (i * 25 + j).toNat).toNat 1) = 0 from (by first | exact c_93 | exact hb90.resolve_left c_93)]⟩ (by omega) H locs ls hW (lv_sub hl [0, 3, 1, 4, 5, 6, 7] rfl)
                ·
                  refine lv_iconst (v := zI 1) hX0 hB0 dX5_nearOf_96 rfl ?_
                  refine lv_goto (tgt := 101) hX0 hB0 dX5_nearOf_97 (by decide) ?_
                  refine z_iadd (z := sm + 1) CX dX5_nearOf_101 rfl ?_
                  refine lv_istore (lv' := [(4, .int (zI (sm + 1))), (7, .int (zI (((zszS d p2 24 0 col).1) (((i * 25) + j).toNat)))), (6, .int (zI j)), (5, .int (zI i)), (0, .ref r), (1, .ref v2), (2, .ref h0), (3, .int (zI p2))]) hX0 hB0 dX5_nearOf_102 hl (by decide) rfl (fun ls hl => ?_)
                  refine lv_iinc (v := zI (j + 1)) (lv' := [(6, .int (zI (j + 1))), (4, .int (zI (sm + 1))), (7, .int (zI (((zszS d p2 24 0 col).1) (((i * 25) + j).toNat)))), (5, .int (zI i)), (0, .ref r), (1, .ref v2), (2, .ref h0), (3, .int (zI p2))]) hX0 hB0 dX5_nearOf_104 hl (k := 2) rfl (zI_add _ _) (by decide) rfl (fun ls hl => ?_)
                  refine lv_goto (tgt := 38) hX0 hB0 dX5_nearOf_107 (by decide) ?_
                  exact ih38 (j + 1) g90 ((zspR K1 R1 ((zszS d p2 24 0 col).2) ((zszS d p2 24 0 col).2) p2 (zup ((fun _ => 0)) ((((zszS d p2 24 0 col).1) (((i * 25) + j).toNat)).toNat) 1))) ((zspK K1 R1 ((zszS d p2 24 0 col).2) ((zszS d p2 24 0 col).2) p2 (zup ((fun _ => 0)) ((((zszS d p2 24 0 col).1) (((i * 25) + j).toNat)).toNat) 1))) ((zspan K1 R1 ((zszS d p2 24 0 col).2) ((zszS d p2 24 0 col).2) p2 (zup ((fun _ => 0)) ((((zszS d p2 24 0 col).1) (((i * 25) + j).toNat)).toNat) 1)).2) w1 (sm + 1) ⟨fun q hq => ((hfr90 _ (by omega)).trans ((va_up_ne _ _ (by omega)).trans ((hfr _ (by omega)).trans rfl))), ⟨((hfr90 _ (by omega)).trans ((va_up_ne _ _ (by omega)).trans hrg.1)), ((hfr90 _ (by omega)).trans ((va_up_ne _ _ (by omega)).trans hrg.2.1)), ((hfr90 _ (by omega)).trans ((va_up_ne _ _ (by omega)).trans hrg.2.2.1)), hgt90⟩, hsp90, zspR_can (by omega) (by omega) hR1, by omega, by omega, by omega, by omega, by rw [zfor_s _ _ _ hj0, ← hsj]; refine Eq.trans ?_ (if_pos (by omega)).symm; show _ = (_, _, _, _, sm + zsp1 _ _ _ _ _ _); rw [show zsp1 K1 R1 (zszS d p2 24 0 col).2 (zszS d p2 24 0 col).2 p2 (zup (fun _ => 0) ((zszS d p2 24 0 col).1 (i * 25 + j).toNat).toNat 1) = 1 from (by first | exact c_93 | exact hb90.resolve_left c_93)]⟩ (by omega) H locs ls hW (lv_sub hl [0, 3, 1, 4, 5, 6, 7] rfl)
        exact hL38 _ 0 g R1 K1 l1 w1 sm ⟨hfr, hrg, hsp, hR1, by omega, by omega, by omega, by omega, by rw [hS0]; exact (zfor_0 _ _ _).symm⟩ (Nat.lt_succ_self _) H locs ls hW (lv_sub hl [0, 1, 2, 3, 4, 5, 6] rfl)
  exact hL28 _ 0 g18 ((zam e d ((zcolm 24 (zflead d 0).1 (zflead d 0).2 col).1) ((zflead d 0).1) ((zflead d 0).2) p2 24 0 ((zcolm 24 (zflead d 0).1 (zflead d 0).2 col).2) (24 - (ztop e)) (R, (fun _ => 0), ln, row, 0)).1) ((zam e d ((zcolm 24 (zflead d 0).1 (zflead d 0).2 col).1) ((zflead d 0).1) ((zflead d 0).2) p2 24 0 ((zcolm 24 (zflead d 0).1 (zflead d 0).2 col).2) (24 - (ztop e)) (R, (fun _ => 0), ln, row, 0)).2.1) ((zam e d ((zcolm 24 (zflead d 0).1 (zflead d 0).2 col).1) ((zflead d 0).1) ((zflead d 0).2) p2 24 0 ((zcolm 24 (zflead d 0).1 (zflead d 0).2 col).2) (24 - (ztop e)) (R, (fun _ => 0), ln, row, 0)).2.2.1) ((zam e d ((zcolm 24 (zflead d 0).1 (zflead d 0).2 col).1) ((zflead d 0).1) ((zflead d 0).2) p2 24 0 ((zcolm 24 (zflead d 0).1 (zflead d 0).2 col).2) (24 - (ztop e)) (R, (fun _ => 0), ln, row, 0)).2.2.2.1) 0 ⟨fun q hq => ((hfr18 _ (by omega)).trans ((hfr6 _ (by omega)).trans rfl)), ⟨((hfr18 _ (by omega)).trans hrg6.1), hgw18, ((hfr18 _ (by omega)).trans hrg6.2.2.1), hgl18⟩, hsp18, hgR18, by omega, by omega, by omega, by omega, by rw [hS9]; exact (zfor_0 _ _ _).symm⟩ (Nat.lt_succ_self _) H locs ls hW (lv_sub hl [0, 1, 2, 3, 4, 5] rfl)
end ZRj
