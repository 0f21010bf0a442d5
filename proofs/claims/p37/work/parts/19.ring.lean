section ZRi
/-- a POLYNOMIAL, moved, comes to a row -/
def zatr_in (d : Nat → Int) (r u o p i : Int) : Int → (Nat → Int) → (Nat → Int) := fun j c => if d (i * 5 + j).toNat ≠ 0 then zup c ((i + r) * 25 + j + u).toNat ((c ((i + r) * 25 + j + u).toNat + o * d (i * 5 + j).toNat) % p) else c
def zatr_out (d : Nat → Int) (r u o p top : Int) : Int → (Nat → Int) → (Nat → Int) := fun i c => zfor (zatr_in d r u o p i) 0 c (min (4 - i) (top - (i + r) - u) + 1 - 0).toNat
def zatr (row d : Nat → Int) (r u o p top : Int) : Nat → Int := if r < 0 ∨ u < 0 then row else zfor (zatr_out d r u o p top) 0 row (min 4 (top - r) + 1 - 0).toNat
theorem zatr_can {row d : Nat → Int} {r u o p top q : Int} (hp : 0 < p) (hq : p ≤ q) (h : zcan q row) : zcan q (zatr row d r u o p top) := by
  unfold zatr
  split
  · exact h
  · exact zfor_inv (zcan q) h (fun i x hx => zfor_inv (zcan q) hx (fun j y hy => by
      show zcan q (zatr_in d r u o p i j y)
      unfold zatr_in
      split
      · exact zcan_up hy _ ⟨(zmr _ hp).1, Int.lt_of_lt_of_le (zmr _ hp).2 hq⟩
      · exact hy) _) _
/-- the LEAD: i and j -/
def zfleadF (d : Nat → Int) (lc : Int) : Nat → Int → Int × Int
  | 0, _ => (0, 0)
  | n + 1, k => if 0 ≤ zlead d (if lc = 0 then 4 - k else k) then (zlead d (if lc = 0 then 4 - k else k), (if lc = 0 then 4 - k else k) - zlead d (if lc = 0 then 4 - k else k)) else zfleadF d lc n (k + 1)
def zflead (d : Nat → Int) (lc : Int) : Int × Int := zfleadF d lc (5 - 0 : Int).toNat 0
theorem zfleadF_s (d : Nat → Int) (lc : Int) {k : Int} (h : k < 5) : zfleadF d lc (5 - k).toNat k = if 0 ≤ zlead d (if lc = 0 then 4 - k else k) then (zlead d (if lc = 0 then 4 - k else k), (if lc = 0 then 4 - k else k) - zlead d (if lc = 0 then 4 - k else k)) else zfleadF d lc (5 - (k + 1)).toNat (k + 1) := by
  rw [show (5 - k).toNat = (5 - (k + 1)).toNat + 1 by omega]
  rfl
theorem zfleadF_rng (d : Nat → Int) (lc : Int) : ∀ (n : Nat) (k : Int), 0 ≤ k → k + n ≤ 5 → 0 ≤ (zfleadF d lc n k).1 ∧ 0 ≤ (zfleadF d lc n k).2 ∧ (zfleadF d lc n k).1 + (zfleadF d lc n k).2 ≤ 4
  | 0, k, _, _ => by simp only [zfleadF]; omega
  | n + 1, k, h1, h2 => by
    have hz := zlead_rng d (if lc = 0 then 4 - k else k) (by split <;> omega)
    have hk : (if lc = 0 then 4 - k else k) ≤ 4 := by split <;> omega
    simp only [zfleadF]
    generalize (if lc = 0 then 4 - k else k) = m at hz hk ⊢
    split
    · exact ⟨by omega, by show (0 : Int) ≤ m - zlead d m; omega, by show zlead d m + (m - zlead d m) ≤ 4; omega⟩
    · exact zfleadF_rng d lc n (k + 1) (by omega) (by omega)
theorem zflead_rng (d : Nat → Int) (lc : Int) : 0 ≤ (zflead d lc).1 ∧ 0 ≤ (zflead d lc).2 ∧ (zflead d lc).1 + (zflead d lc).2 ≤ 4 := zfleadF_rng d lc _ 0 (by omega) (by decide)
/-- which TERM has which column -/
def zcolm_in (top lx ly i : Int) : Int → (Nat → Int) × Int → (Nat → Int) × Int := fun j s => (zup s.1 (i * 25 + j).toNat (if i + j ≤ top ∧ (i < lx ∨ j < ly) ∧ s.2 < 94 then s.2 else -1), s.2 + if i + j ≤ top ∧ (i < lx ∨ j < ly) ∧ s.2 < 94 then 1 else 0)
def zcolm_out (top lx ly : Int) : Int → (Nat → Int) × Int → (Nat → Int) × Int := fun i s => zfor (zcolm_in top lx ly i) 0 s (24 - i + 1 - 0).toNat
def zcolm (top lx ly : Int) (c : Nat → Int) : (Nat → Int) × Int := zfor (zcolm_out top lx ly) 0 (c, 0) (25 - 0 : Int).toNat
/-- a row goes down by the divisor -/
def zredr_in (d : Nat → Int) (v lx ly p top e : Int) : Int → (Nat → Int) → (Nat → Int) := fun i row => if row (i * 25 + e - i).toNat ≠ 0 then zatr row d (i - lx) (e - i - ly) (-row (i * 25 + e - i).toNat * v % p) p top else row
def zredr_out (d : Nat → Int) (v lx ly p top lc : Int) : Int → (Nat → Int) → (Nat → Int) := fun k row => zforD (zredr_in d v lx ly p top (if lc = 0 then top - k else k)) ((if lc = 0 then top - k else k) - ly) row ((if lc = 0 then top - k else k) - ly - (lx - 1)).toNat
def zredr (row d : Nat → Int) (lx ly p top lc : Int) : Nat → Int := zfor (zredr_out d (zinv (zat d lx ly) p) lx ly p top lc) 0 row (top + 1 - 0).toNat
theorem zredr_in_can {d y : Nat → Int} {v lx ly p top e i q : Int} (hp : 0 < p) (hq : p ≤ q) (hy : zcan q y) : zcan q (zredr_in d v lx ly p top e i y) := by
  unfold zredr_in
  split
  · exact zatr_can hp hq hy
  · exact hy
theorem zredr_can {row d : Nat → Int} {lx ly p top lc q : Int} (hp : 0 < p) (hq : p ≤ q) (h : zcan q row) : zcan q (zredr row d lx ly p top lc) :=
  zfor_inv (zcan q) h (fun k x hx => zforD_inv (zcan q) hx (fun i y hy => zredr_in_can hp hq hy) _) _
/-- the line of a row -/
def zrl_in (row col : Nat → Int) (i : Int) : Int → (Nat → Int) → (Nat → Int) := fun j l => if 0 ≤ col (i * 25 + j).toNat then zup l (col (i * 25 + j).toNat).toNat (row (i * 25 + j).toNat) else l
def zrl_out (row col : Nat → Int) (top : Int) : Int → (Nat → Int) → (Nat → Int) := fun i l => zfor (zrl_in row col i) 0 l (top - i + 1 - 0).toNat
def zrl (row col : Nat → Int) (top : Int) : Nat → Int := zfor (zrl_out row col top) 0 (fun _ => 0) (top + 1 - 0).toNat
theorem zrl_can {row col : Nat → Int} {top p : Int} (hp : 0 < p) (h : zcan p row) : zcan p (zrl row col top) :=
  zfor_inv (zcan p) (fun _ => by show (0 : Int) ≤ 0 ∧ (0 : Int) < p; omega) (fun i x hx => zfor_inv (zcan p) hx (fun j y hy => by
    show zcan p (zrl_in row col i j y)
    unfold zrl_in
    split
    · exact zcan_up hy _ (h _)
    · exact hy) _) _
/-- the state: rows, which are known, the line, the row, how many -/
abbrev zRt : Type := (Nat → Nat → Int) × (Nat → Int) × (Nat → Int) × (Nat → Int) × Int
def zrow (g d : Nat → Int) (lx ly p top lc i j : Int) : Nat → Int := zredr (zatr (fun _ => 0) g i j 1 p top) d lx ly p top lc
def zam_in (g d col : Nat → Int) (lx ly p top lc wd i : Int) : Int → zRt → zRt := fun j s => if 0 ≤ col (i * 25 + j).toNat then
    (zspR s.2.1 s.1 wd wd p (zrl (zrow g d lx ly p top lc i j) col top), zspK s.2.1 s.1 wd wd p (zrl (zrow g d lx ly p top lc i j) col top), (zspan s.2.1 s.1 wd wd p (zrl (zrow g d lx ly p top lc i j) col top)).2, zrow g d lx ly p top lc i j, s.2.2.2.2 + zsp1 s.2.1 s.1 wd wd p (zrl (zrow g d lx ly p top lc i j) col top)) else s
def zam_out (g d col : Nat → Int) (lx ly p top lc wd m : Int) : Int → zRt → zRt := fun i s => zfor (zam_in g d col lx ly p top lc wd i) 0 s (m - i + 1 - 0).toNat
def zam (g d col : Nat → Int) (lx ly p top lc wd m : Int) (s : zRt) : zRt := zfor (zam_out g d col lx ly p top lc wd m) 0 s (m + 1 - 0).toNat
/-- a ring at r, its space at b, its divisor at v -/
def zRg (cI : ClassId) (f : Nat → va_E) (r b v : Nat) (p top lc lx ly wd : Int) (row col ln : Nat → Int) : Prop :=
  f r = .inr (5, [.ref b, .ref (r + 1), .ref (r + 2), .ref (r + 3), .ref v, .int (zI p), .int (zI top), .int (zI lc), .int (zI lx), .int (zI ly), .int (zI wd)]) ∧ f (r + 1) = zA cI 625 row ∧ f (r + 2) = zA cI 625 col ∧ f (r + 3) = zA cI 94 ln
theorem zRg.same {cI : ClassId} {f g : Nat → va_E} {r b v : Nat} {p top lc lx ly wd : Int} {row col ln : Nat → Int} (h : zRg cI f r b v p top lc lx ly wd row col ln) (hs : ∀ q, r ≤ q → q < r + 6 → g q = f q) : zRg cI g r b v p top lc lx ly wd row col ln :=
  ⟨(hs _ (by omega) (by omega)).trans h.1, (hs _ (by omega) (by omega)).trans h.2.1, (hs _ (by omega) (by omega)).trans h.2.2.1, (hs _ (by omega) (by omega)).trans h.2.2.2⟩
def zFrR (f g : Nat → va_E) (b r : Nat) : Prop := ∀ q, ¬ (b ≤ q ∧ q < b + 97) ∧ ¬ (r ≤ q ∧ q < r + 6) → g q = f q
set_option maxRecDepth 100000 in
set_option maxHeartbeats 4000000 in
/-- Ring.clearLine -/
theorem c_clearLine (l : Launch) {D : va_G} {cI cJ cZ cP cS cM : ClassId} {L : List Nat} {sz : Nat} {f : Nat → va_E} (r b v : Nat) (p top lc lx ly wd : Int) (row col ln : Nat → Int) (hG : zRg cI f r b v p top lc lx ly wd row col ln) : zMv l yX5_clearLine wsX5_clearLine 0 0 D (zT cI cJ cZ cP cS cM) L sz f [.ref r] (fun g => g = va_up f (r + 3) (zA cI 94 (fun _ => 0))) := by
  refine zWalk.met (nL := 2) (ret := none) (cc := cX5_clearLine) (by decide) rfl (Nat.le_of_ble_eq_true rfl) ?_
  intro pg en st mi ag bl mt cd ls CX hW hl
  have CX : zC pg st mi ag mt cd cX5_clearLine 2 none RX5 wsX5_clearLine := CX
  generalize hQ : MQ bl _ ag st 0 0 _ = Q
  have hX0 := CX.1
  have hB0 := CX.2.1
  have hl : lv_has ls 2 [(0, .ref r)] := hl
  obtain ⟨H, eH⟩ : ∃ H, H = st.heap := ⟨_, rfl⟩
  obtain ⟨locs, eL⟩ : ∃ L : List Loc, L = [] := ⟨_, rfl⟩
  have hW : zW D (zT cI cJ cZ cP cS cM) L (zQ L sz) st f st.heap H locs := by rw [eH, eL]; exact hW
  suffices hgo : W pg l en ({ frames := 0, cells := 0, slots := 0, locals := 0 } : Room) st mi ag bl mt cd H locs 0 0 Q (F0 mi 0 ls []) by rw [eH, eL] at hgo; exact hgo
  clear eH eL
  refine lv_iconst (v := zI 0) hX0 hB0 dX5_clearLine_0 rfl ?_
  refine lv_istore_n (lv' := [(1, .int (zI 0)), (0, .ref r)]) hX0 hB0 dX5_clearLine_1 rfl hl (by decide) rfl (fun ls hl => ?_)
  have hL2 : ∀ (fu : Nat) (k : Int) (cl : Nat → Int), (0 ≤ k ∧ k ≤ 94 ∧ ∀ j : Nat, (j : Int) < k → cl j = 0) → (94 - k).toNat < fu → ∀ (H : Heap) (locs : List Loc) (ls : Array Slot), zW D (zT cI cJ cZ cP cS cM) L (zQ L sz) st (va_up f (r + 3) (zA cI 94 cl)) st.heap H locs → lv_has ls 2 [(1, .int (zI k)), (0, .ref r)] → W pg l en ({ frames := 0, cells := 0, slots := 0, locals := 0 } : Room) st mi ag bl mt cd H locs 0 0 Q (F0 mi 2 ls []) := by
    intro fu
    induction fu with
    | zero => intro k cl _ hfu; exact absurd hfu (Nat.not_lt_zero _)
    | succ fu ih2 =>
      intro k cl hinv2 hfu2 H locs ls hW hl
      obtain ⟨hk0, hk1, hck⟩ := hinv2
      refine lv_iload_n hX0 hB0 dX5_clearLine_2 rfl (lv_at hl 0 rfl) ?_
      refine lv_aload_n hX0 hB0 dX5_clearLine_3 rfl (lv_at hl 1 rfl) ?_
      refine z_get (Cn := RX5) (T := TX5) (N := 11) CX hW (v := .ref (r + 3)) ((va_up_ne _ _ (by omega)).trans hG.1) rfl (fun w h => List.mem_cons_of_mem _ (List.mem_append_right _ h)) 3 (by decide) (List.mem_of_getElem? (i := 1) rfl) rfl rfl dX5_clearLine_4 ?_
      refine z_alen (n := 94) CX hW (va_up_self _ _ _) 0 rfl rfl dX5_clearLine_7 ?_
      refine z_icmp_ge (tgt := 24) CX dX5_clearLine_8 (by decide) (by constructor <;> omega) (by constructor <;> omega) (fun c_8 => ?_) (fun c_8 => ?_)
      ·
        have hW := hW.same (d := fun _ => 0) (fun j hj => hck j (by omega))
        rw [← hQ]
        exact z_vret CX hW (by rfl) dX5_clearLine_24
      ·
        refine lv_aload_n hX0 hB0 dX5_clearLine_11 rfl (lv_at hl 1 rfl) ?_
        refine z_get (Cn := RX5) (T := TX5) (N := 11) CX hW (v := .ref (r + 3)) ((va_up_ne _ _ (by omega)).trans hG.1) rfl (fun w h => List.mem_cons_of_mem _ (List.mem_append_right _ h)) 3 (by decide) (List.mem_of_getElem? (i := 1) rfl) rfl rfl dX5_clearLine_12 ?_
        refine lv_iload_n hX0 hB0 dX5_clearLine_15 rfl (lv_at hl 0 rfl) ?_
        refine lv_iconst (v := zI 0) hX0 hB0 dX5_clearLine_16 rfl ?_
        refine z_iast CX hW (va_up_self _ _ _) 0 rfl (by refine ⟨?_, ?_, ?_⟩ <;> omega) (g := va_up f (r + 3) (zA cI 94 (zup cl k.toNat 0))) va_up_up dX5_clearLine_17 (fun H locs hW => ?_)
        refine lv_iinc (v := zI (k + 1)) (lv' := [(1, .int (zI (k + 1))), (0, .ref r)]) hX0 hB0 dX5_clearLine_18 hl (k := 0) rfl (zI_add _ _) (by decide) rfl (fun ls hl => ?_)
        refine lv_goto (tgt := 2) hX0 hB0 dX5_clearLine_21 (by decide) ?_
        exact ih2 (k + 1) (zup cl k.toNat 0) ⟨by omega, by omega, zup_step (b := cl) (q := fun _ => 0) hck hk0 rfl⟩ (by omega) H locs ls hW (lv_sub hl [0, 1] rfl)
  have hW := hW
  rw [show f = va_up f (r + 3) (zA cI 94 ln) from by rw [va_up_id (a := (r + 3)) hG.2.2.2]] at hW
  exact hL2 _ 0 ln ⟨by omega, by omega, fun j hj => by omega⟩ (Nat.lt_succ_self _) H locs ls hW (lv_sub hl [0, 1] rfl)
set_option maxRecDepth 100000 in
set_option maxHeartbeats 4000000 in
/-- Ring.addToRow -/
theorem c_addToRow (l : Launch) {D : va_G} {cI cJ cZ cP cS cM : ClassId} {L : List Nat} {sz : Nat} {f : Nat → va_E} (r b v : Nat) (p top lc lx ly wd : Int) (row col ln : Nat → Int) (h0 h : Nat) (e : Nat → Int) (x u o : Int) (hG : zRg cI f r b v p top lc lx ly wd row col ln) (hp : 2 ≤ p ∧ p ≤ 31) (htop : 0 ≤ top ∧ top ≤ 24) (hf0 : f h0 = .inr (2, [.ref h])) (hf1 : f h = zA cI 25 e) (he : zcan 31 e) (hh0 : h0 < r ∨ r + 6 ≤ h0) (hh : h < r ∨ r + 6 ≤ h) (hrow : zcan 31 row) (hx : -1000 ≤ x ∧ x ≤ 1000) (hu : -1000 ≤ u ∧ u ≤ 1000) (ho : 0 ≤ o ∧ o ≤ 31) : zMv l yX5_addToRow wsX5_addToRow 0 0 D (zT cI cJ cZ cP cS cM) L sz f [.ref r, .ref h0, .int (zI x), .int (zI u), .int (zI o)] (fun g => g = va_up f (r + 1) (zA cI 625 (zatr row e x u o p top))) := by
  refine zWalk.met (nL := 9) (ret := none) (cc := cX5_addToRow) (by decide) rfl (Nat.le_of_ble_eq_true rfl) ?_
  intro pg en st mi ag bl mt cd ls CX hW hl
  have CX : zC pg st mi ag mt cd cX5_addToRow 9 none RX5 wsX5_addToRow := CX
  generalize hQ : MQ bl _ ag st 0 0 _ = Q
  have hX0 := CX.1
  have hB0 := CX.2.1
  have hl : lv_has ls 9 [(0, .ref r), (1, .ref h0), (2, .int (zI x)), (3, .int (zI u)), (4, .int (zI o))] := hl
  obtain ⟨H, eH⟩ : ∃ H, H = st.heap := ⟨_, rfl⟩
  obtain ⟨locs, eL⟩ : ∃ L : List Loc, L = [] := ⟨_, rfl⟩
  have hW : zW D (zT cI cJ cZ cP cS cM) L (zQ L sz) st f st.heap H locs := by rw [eH, eL]; exact hW
  suffices hgo : W pg l en ({ frames := 0, cells := 0, slots := 0, locals := 0 } : Room) st mi ag bl mt cd H locs 0 0 Q (F0 mi 0 ls []) by rw [eH, eL] at hgo; exact hgo
  clear eH eL
  refine lv_aload_n hX0 hB0 dX5_addToRow_0 rfl (lv_at hl 0 rfl) ?_
  refine z_get (Cn := RX5) (T := TX5) (N := 11) CX hW (v := .int (zI p)) hG.1 rfl (fun w h => List.mem_cons_of_mem _ (List.mem_append_left _ (List.mem_append_right _ h))) 5 (by decide) (List.mem_of_getElem? (i := 1) rfl) rfl rfl dX5_addToRow_1 ?_
  refine lv_iconst (v := zI 2) hX0 hB0 dX5_addToRow_4 rfl ?_
  refine z_icmp_lt (tgt := 16) CX dX5_addToRow_5 (by decide) (by constructor <;> omega) (by constructor <;> omega) (fun c_5 => ?_) (fun c_5 => ?_)
  ·
    omega
  ·
    refine lv_iload_n hX0 hB0 dX5_addToRow_8 rfl (lv_at hl 2 rfl) ?_
    refine z_if_lt (tgt := 16) CX dX5_addToRow_9 (by decide) (by constructor <;> omega) (fun c_9 => ?_) (fun c_9 => ?_)
    ·
      rw [← hQ]
      exact z_vret CX hW (by unfold zatr; rw [if_pos (by omega)]; exact (va_up_id hG.2.1).symm) dX5_addToRow_16
    ·
      refine lv_iload_n hX0 hB0 dX5_addToRow_12 rfl (lv_at hl 3 rfl) ?_
      refine z_if_ge (tgt := 17) CX dX5_addToRow_13 (by decide) (by constructor <;> omega) (fun c_13 => ?_) (fun c_13 => ?_)
      ·
        refine lv_iconst (v := zI 0) hX0 hB0 dX5_addToRow_17 rfl ?_
        refine lv_istore (lv' := [(5, .int (zI 0)), (0, .ref r), (1, .ref h0), (2, .int (zI x)), (3, .int (zI u)), (4, .int (zI o))]) hX0 hB0 dX5_addToRow_18 hl (by decide) rfl (fun ls hl => ?_)
        have hL20 : ∀ (fu : Nat) (i : Int) (co : Nat → Int), (0 ≤ i ∧ (i ≤ min 4 (top - x) + 1 ∨ i = 0) ∧ co = zfor (zatr_out e x u o p top) 0 row (i - 0).toNat ∧ 0 ≤ x ∧ 0 ≤ u ∧ zcan 31 co) → (min 4 (top - x) + 1 - i).toNat < fu → ∀ (H : Heap) (locs : List Loc) (ls : Array Slot), zW D (zT cI cJ cZ cP cS cM) L (zQ L sz) st (va_up f (r + 1) (zA cI 625 co)) st.heap H locs → lv_has ls 9 [(5, .int (zI i)), (0, .ref r), (1, .ref h0), (2, .int (zI x)), (3, .int (zI u)), (4, .int (zI o))] → W pg l en ({ frames := 0, cells := 0, slots := 0, locals := 0 } : Room) st mi ag bl mt cd H locs 0 0 Q (F0 mi 20 ls []) := by
          intro fu
          induction fu with
          | zero => intro i co _ hfu; exact absurd hfu (Nat.not_lt_zero _)
          | succ fu ih20 =>
            intro i co hinv20 hfu20 H locs ls hW hl
            obtain ⟨hi0, hi1, heco, hx0, hu0, hco⟩ := hinv20
            refine lv_iload hX0 hB0 dX5_addToRow_20 (lv_at hl 0 rfl) ?_
            refine lv_iconst (v := zI 4) hX0 hB0 dX5_addToRow_22 rfl ?_
            refine z_icmp_gt (tgt := 135) CX dX5_addToRow_23 (by decide) (by constructor <;> omega) (by constructor <;> omega) (fun c_23 => ?_) (fun c_23 => ?_)
            ·
              rw [← hQ]
              exact z_vret CX hW (by unfold zatr; rw [if_neg (by omega), heco, show (i - 0).toNat = (min 4 (top - x) + 1 - 0).toNat by omega]) dX5_addToRow_135
            ·
              refine lv_iload hX0 hB0 dX5_addToRow_26 (lv_at hl 0 rfl) ?_
              refine lv_iload_n hX0 hB0 dX5_addToRow_28 rfl (lv_at hl 3 rfl) ?_
              refine z_iadd (z := i + x) CX dX5_addToRow_29 rfl ?_
              refine lv_aload_n hX0 hB0 dX5_addToRow_30 rfl (lv_at hl 1 rfl) ?_
              refine z_get (Cn := RX5) (T := TX5) (N := 11) CX hW (v := .int (zI top)) ((va_up_ne _ _ (by omega)).trans hG.1) rfl (fun w h => List.mem_cons_of_mem _ (List.mem_append_left _ (List.mem_append_right _ h))) 6 (by decide) (List.mem_of_getElem? (i := 2) rfl) rfl rfl dX5_addToRow_31 ?_
              refine z_icmp_gt (tgt := 135) CX dX5_addToRow_34 (by decide) (by constructor <;> omega) (by constructor <;> omega) (fun c_34 => ?_) (fun c_34 => ?_)
              ·
                rw [← hQ]
                exact z_vret CX hW (by unfold zatr; rw [if_neg (by omega), heco, show (i - 0).toNat = (min 4 (top - x) + 1 - 0).toNat by omega]) dX5_addToRow_135
              ·
                refine lv_iconst (v := zI 0) hX0 hB0 dX5_addToRow_37 rfl ?_
                refine lv_istore (lv' := [(6, .int (zI 0)), (5, .int (zI i)), (0, .ref r), (1, .ref h0), (2, .int (zI x)), (3, .int (zI u)), (4, .int (zI o))]) hX0 hB0 dX5_addToRow_38 hl (by decide) rfl (fun ls hl => ?_)
                have hL40 : ∀ (fu : Nat) (j : Int) (ce : Nat → Int), (0 ≤ j ∧ (j ≤ min (4 - i) (top - (i + x) - u) + 1 ∨ j = 0) ∧ ce = zfor (zatr_in e x u o p i) 0 co (j - 0).toNat ∧ zcan 31 ce) → (min (4 - i) (top - (i + x) - u) + 1 - j).toNat < fu → ∀ (H : Heap) (locs : List Loc) (ls : Array Slot), zW D (zT cI cJ cZ cP cS cM) L (zQ L sz) st (va_up f (r + 1) (zA cI 625 ce)) st.heap H locs → lv_has ls 9 [(6, .int (zI j)), (5, .int (zI i)), (0, .ref r), (1, .ref h0), (2, .int (zI x)), (3, .int (zI u)), (4, .int (zI o))] → W pg l en ({ frames := 0, cells := 0, slots := 0, locals := 0 } : Room) st mi ag bl mt cd H locs 0 0 Q (F0 mi 40 ls []) := by
                  intro fu
                  induction fu with
                  | zero => intro j ce _ hfu; exact absurd hfu (Nat.not_lt_zero _)
                  | succ fu ih40 =>
                    intro j ce hinv40 hfu40 H locs ls hW hl
                    obtain ⟨hj0, hj1, hece, hce⟩ := hinv40
                    refine lv_iload hX0 hB0 dX5_addToRow_40 (lv_at hl 0 rfl) ?_
                    refine lv_iconst (v := zI 4) hX0 hB0 dX5_addToRow_42 rfl ?_
                    refine lv_iload hX0 hB0 dX5_addToRow_43 (lv_at hl 1 rfl) ?_
                    refine z_isub (z := 4 - i) CX dX5_addToRow_45 rfl ?_
                    refine z_icmp_gt (tgt := 129) CX dX5_addToRow_46 (by decide) (by constructor <;> omega) (by constructor <;> omega) (fun c_46 => ?_) (fun c_46 => ?_)
                    ·
                      refine lv_iinc (v := zI (i + 1)) (lv' := [(5, .int (zI (i + 1))), (6, .int (zI j)), (0, .ref r), (1, .ref h0), (2, .int (zI x)), (3, .int (zI u)), (4, .int (zI o))]) hX0 hB0 dX5_addToRow_129 hl (k := 1) rfl (zI_add _ _) (by decide) rfl (fun ls hl => ?_)
                      refine lv_goto (tgt := 20) hX0 hB0 dX5_addToRow_132 (by decide) ?_
                      exact ih20 (i + 1) ce ⟨by omega, by omega, by rw [zfor_s _ _ _ hi0, ← heco]; rw [hece]; show zfor _ 0 co _ = zfor _ 0 co _; congr 1; omega, hx0, hu0, hce⟩ (by omega) H locs ls hW (lv_sub hl [0, 2, 3, 4, 5, 6] rfl)
                    ·
                      refine lv_iload hX0 hB0 dX5_addToRow_49 (lv_at hl 1 rfl) ?_
                      refine lv_iload_n hX0 hB0 dX5_addToRow_51 rfl (lv_at hl 4 rfl) ?_
                      refine z_iadd (z := i + x) CX dX5_addToRow_52 rfl ?_
                      refine lv_iload hX0 hB0 dX5_addToRow_53 (lv_at hl 0 rfl) ?_
                      refine z_iadd (z := (i + x) + j) CX dX5_addToRow_55 rfl ?_
                      refine lv_iload_n hX0 hB0 dX5_addToRow_56 rfl (lv_at hl 5 rfl) ?_
                      refine z_iadd (z := ((i + x) + j) + u) CX dX5_addToRow_57 rfl ?_
                      refine lv_aload_n hX0 hB0 dX5_addToRow_58 rfl (lv_at hl 2 rfl) ?_
                      refine z_get (Cn := RX5) (T := TX5) (N := 11) CX hW (v := .int (zI top)) ((va_up_ne _ _ (by omega)).trans hG.1) rfl (fun w h => List.mem_cons_of_mem _ (List.mem_append_left _ (List.mem_append_right _ h))) 6 (by decide) (List.mem_of_getElem? (i := 2) rfl) rfl rfl dX5_addToRow_59 ?_
                      refine z_icmp_gt (tgt := 129) CX dX5_addToRow_62 (by decide) (by constructor <;> omega) (by constructor <;> omega) (fun c_62 => ?_) (fun c_62 => ?_)
                      ·
                        refine lv_iinc (v := zI (i + 1)) (lv' := [(5, .int (zI (i + 1))), (6, .int (zI j)), (0, .ref r), (1, .ref h0), (2, .int (zI x)), (3, .int (zI u)), (4, .int (zI o))]) hX0 hB0 dX5_addToRow_129 hl (k := 1) rfl (zI_add _ _) (by decide) rfl (fun ls hl => ?_)
                        refine lv_goto (tgt := 20) hX0 hB0 dX5_addToRow_132 (by decide) ?_
                        exact ih20 (i + 1) ce ⟨by omega, by omega, by rw [zfor_s _ _ _ hi0, ← heco]; rw [hece]; show zfor _ 0 co _ = zfor _ 0 co _; congr 1; omega, hx0, hu0, hce⟩ (by omega) H locs ls hW (lv_sub hl [0, 2, 3, 4, 5, 6] rfl)
                      ·
                        refine lv_aload_n hX0 hB0 dX5_addToRow_65 rfl (lv_at hl 3 rfl) ?_
                        refine z_getN (host := "CurveMeets") (Cn := RX2) (T := TX2) (N := 1) CX hW (v := .ref h) ((va_up_ne _ _ (by omega)).trans hf0) rfl (fun w h => List.mem_cons_of_mem _ (List.mem_append_right _ h)) 0 (by decide) (by decide +kernel) rfl rfl dX5_addToRow_66 ?_
                        refine lv_iload hX0 hB0 dX5_addToRow_69 (lv_at hl 1 rfl) ?_
                        refine lv_iconst (v := zI 5) hX0 hB0 dX5_addToRow_71 rfl ?_
                        refine z_imul (z := i * 5) CX dX5_addToRow_72 rfl ?_
                        refine lv_iload hX0 hB0 dX5_addToRow_73 (lv_at hl 0 rfl) ?_
                        refine z_iadd (z := (i * 5) + j) CX dX5_addToRow_75 rfl ?_
                        refine z_iald (z := e (((i * 5) + j).toNat)) CX hW ((va_up_ne _ _ (by omega)).trans hf1) 0 rfl (by refine ⟨?_, ?_, ?_⟩ <;> omega) rfl dX5_addToRow_76 ?_
                        have hr1 := he (((i * 5) + j).toNat)
                        refine lv_istore (lv' := [(7, .int (zI (e (((i * 5) + j).toNat)))), (6, .int (zI j)), (5, .int (zI i)), (0, .ref r), (1, .ref h0), (2, .int (zI x)), (3, .int (zI u)), (4, .int (zI o))]) hX0 hB0 dX5_addToRow_77 hl (by decide) rfl (fun ls hl => ?_)
                        refine lv_iload hX0 hB0 dX5_addToRow_79 (lv_at hl 0 rfl) ?_
                        refine z_if_eq (tgt := 123) CX dX5_addToRow_81 (by decide) (by constructor <;> omega) (fun c_81 => ?_) (fun c_81 => ?_)
                        ·
                          refine lv_iinc (v := zI (j + 1)) (lv' := [(6, .int (zI (j + 1))), (7, .int (zI (e (((i * 5) + j).toNat)))), (5, .int (zI i)), (0, .ref r), (1, .ref h0), (2, .int (zI x)), (3, .int (zI u)), (4, .int (zI o))]) hX0 hB0 dX5_addToRow_123 hl (k := 1) rfl (zI_add _ _) (by decide) rfl (fun ls hl => ?_)
                          refine lv_goto (tgt := 40) hX0 hB0 dX5_addToRow_126 (by decide) ?_
                          exact ih40 (j + 1) ce ⟨by omega, by omega, by rw [zfor_s _ _ _ hj0, ← hece]; first | exact (if_neg (fun h => h c_81)).symm | exact (if_pos c_81).symm, by first | exact hce | exact zcan_up hce _ (by omega)⟩ (by omega) H locs ls hW (lv_sub hl [0, 2, 3, 4, 5, 6, 7] rfl)
                        ·
                          refine lv_iload hX0 hB0 dX5_addToRow_84 (lv_at hl 2 rfl) ?_
                          refine lv_iload_n hX0 hB0 dX5_addToRow_86 rfl (lv_at hl 5 rfl) ?_
                          refine z_iadd (z := i + x) CX dX5_addToRow_87 rfl ?_
                          refine lv_bipush (v := zI 25) hX0 hB0 dX5_addToRow_88 (by decide) ?_
                          refine z_imul (z := (i + x) * 25) CX dX5_addToRow_90 rfl ?_
                          refine lv_iload hX0 hB0 dX5_addToRow_91 (lv_at hl 1 rfl) ?_
                          refine z_iadd (z := ((i + x) * 25) + j) CX dX5_addToRow_93 rfl ?_
                          refine lv_iload_n hX0 hB0 dX5_addToRow_94 rfl (lv_at hl 6 rfl) ?_
                          refine z_iadd (z := (((i + x) * 25) + j) + u) CX dX5_addToRow_95 rfl ?_
                          refine lv_istore (lv' := [(8, .int (zI ((((i + x) * 25) + j) + u))), (7, .int (zI (e (((i * 5) + j).toNat)))), (6, .int (zI j)), (5, .int (zI i)), (0, .ref r), (1, .ref h0), (2, .int (zI x)), (3, .int (zI u)), (4, .int (zI o))]) hX0 hB0 dX5_addToRow_96 hl (by decide) rfl (fun ls hl => ?_)
                          refine lv_aload_n hX0 hB0 dX5_addToRow_98 rfl (lv_at hl 4 rfl) ?_
                          refine z_get (Cn := RX5) (T := TX5) (N := 11) CX hW (v := .ref (r + 1)) ((va_up_ne _ _ (by omega)).trans hG.1) rfl (fun w h => List.mem_cons_of_mem _ (List.mem_append_left _ (List.mem_append_right _ h))) 1 (by decide) (List.mem_of_getElem? (i := 3) rfl) rfl rfl dX5_addToRow_99 ?_
                          refine lv_iload hX0 hB0 dX5_addToRow_102 (lv_at hl 0 rfl) ?_
                          refine lv_aload_n hX0 hB0 dX5_addToRow_104 rfl (lv_at hl 4 rfl) ?_
                          refine z_get (Cn := RX5) (T := TX5) (N := 11) CX hW (v := .ref (r + 1)) ((va_up_ne _ _ (by omega)).trans hG.1) rfl (fun w h => List.mem_cons_of_mem _ (List.mem_append_left _ (List.mem_append_right _ h))) 1 (by decide) (List.mem_of_getElem? (i := 3) rfl) rfl rfl dX5_addToRow_105 ?_
                          refine lv_iload hX0 hB0 dX5_addToRow_108 (lv_at hl 0 rfl) ?_
                          refine z_iald (z := ce (((((i + x) * 25) + j) + u).toNat)) CX hW (va_up_self _ _ _) 0 rfl (by refine ⟨?_, ?_, ?_⟩ <;> omega) rfl dX5_addToRow_110 ?_
                          have hr2 := hce (((((i + x) * 25) + j) + u).toNat)
                          have hcn := hce ((i + x) * 25 + j + u).toNat
                          have hen := he (i * 5 + j).toNat
                          have hoe := zmul_rng (a := o) (b := e (i * 5 + j).toNat) (A := 31) (B := 31) (by omega) (by omega)
                          have hmm := zmr (ce ((i + x) * 25 + j + u).toNat + o * e (i * 5 + j).toNat) (p := p) (by omega)
                          refine lv_iload hX0 hB0 dX5_addToRow_111 (lv_at hl 8 rfl) ?_
                          refine lv_iload hX0 hB0 dX5_addToRow_113 (lv_at hl 1 rfl) ?_
                          refine z_imul (z := o * (e (((i * 5) + j).toNat))) CX dX5_addToRow_115 rfl ?_
                          refine z_iadd (z := (ce (((((i + x) * 25) + j) + u).toNat)) + (o * (e (((i * 5) + j).toNat)))) CX dX5_addToRow_116 rfl ?_
                          refine lv_aload_n hX0 hB0 dX5_addToRow_117 rfl (lv_at hl 4 rfl) ?_
                          refine z_get (Cn := RX5) (T := TX5) (N := 11) CX hW (v := .int (zI p)) ((va_up_ne _ _ (by omega)).trans hG.1) rfl (fun w h => List.mem_cons_of_mem _ (List.mem_append_left _ (List.mem_append_right _ h))) 5 (by decide) (List.mem_of_getElem? (i := 1) rfl) rfl rfl dX5_addToRow_118 ?_
                          refine z_irem (z := (ce ((i + x) * 25 + j + u).toNat + o * e (i * 5 + j).toNat) % p) CX dX5_addToRow_121 (by constructor <;> omega) (by constructor <;> omega) (Int.tmod_eq_emod_of_nonneg (by omega)) ?_
                          refine z_iast CX hW (va_up_self _ _ _) 0 rfl (by refine ⟨?_, ?_, ?_⟩ <;> omega) (g := va_up f (r + 1) (zA cI 625 (zup ce (((((i + x) * 25) + j) + u).toNat) ((ce ((i + x) * 25 + j + u).toNat + o * e (i * 5 + j).toNat) % p)))) va_up_up dX5_addToRow_122 (fun H locs hW => ?_)
                          refine lv_iinc (v := zI (j + 1)) (lv' := [(6, .int (zI (j + 1))), (8, .int (zI ((((i + x) * 25) + j) + u))), (7, .int (zI (e (((i * 5) + j).toNat)))), (5, .int (zI i)), (0, .ref r), (1, .ref h0), (2, .int (zI x)), (3, .int (zI u)), (4, .int (zI o))]) hX0 hB0 dX5_addToRow_123 hl (k := 2) rfl (zI_add _ _) (by decide) rfl (fun ls hl => ?_)
                          refine lv_goto (tgt := 40) hX0 hB0 dX5_addToRow_126 (by decide) ?_
                          exact ih40 (j + 1) (zup ce (((((i + x) * 25) + j) + u).toNat) ((ce ((i + x) * 25 + j + u).toNat + o * e (i * 5 + j).toNat) % p)) ⟨by omega, by omega, by rw [zfor_s _ _ _ hj0, ← hece]; first | exact (if_neg (fun h => h c_81)).symm | exact (if_pos c_81).symm, by first | exact hce | exact zcan_up hce _ (by omega)⟩ (by omega) H locs ls hW (lv_sub hl [0, 3, 4, 5, 6, 7, 8] rfl)
                exact hL40 _ 0 co ⟨by omega, Or.inr rfl, (zfor_0 _ _ _).symm, hco⟩ (Nat.lt_succ_self _) H locs ls hW (lv_sub hl [0, 1, 2, 3, 4, 5, 6] rfl)
        have hW := hW
        rw [show f = va_up f (r + 1) (zA cI 625 row) from by rw [va_up_id (a := (r + 1)) hG.2.1]] at hW
        exact hL20 _ 0 row ⟨by omega, Or.inr rfl, (zfor_0 _ _ _).symm, by omega, by omega, hrow⟩ (Nat.lt_succ_self _) H locs ls hW (lv_sub hl [0, 1, 2, 3, 4, 5] rfl)
      ·
        rw [← hQ]
        exact z_vret CX hW (by unfold zatr; rw [if_pos (by omega)]; exact (va_up_id hG.2.1).symm) dX5_addToRow_16
set_option maxRecDepth 100000 in
set_option maxHeartbeats 4000000 in
/-- Ring.setRow -/
theorem c_setRow (l : Launch) {D : va_G} {cI cJ cZ cP cS cM : ClassId} {L : List Nat} {sz : Nat} {f : Nat → va_E} (r b v : Nat) (p top lc lx ly wd : Int) (row col ln : Nat → Int) (h0 h : Nat) (e : Nat → Int) (x u : Int) (hG : zRg cI f r b v p top lc lx ly wd row col ln) (hp : 2 ≤ p ∧ p ≤ 31) (htop : 0 ≤ top ∧ top ≤ 24) (hf0 : f h0 = .inr (2, [.ref h])) (hf1 : f h = zA cI 25 e) (he : zcan 31 e) (hh0 : h0 < r ∨ r + 6 ≤ h0) (hh : h < r ∨ r + 6 ≤ h) (hx : -1000 ≤ x ∧ x ≤ 1000) (hu : -1000 ≤ u ∧ u ≤ 1000) : zMv l yX5_setRow wsX5_setRow 1 28 D (zT cI cJ cZ cP cS cM) L sz f [.ref r, .ref h0, .int (zI x), .int (zI u)] (fun g => g = va_up f (r + 1) (zA cI 625 (zatr (fun _ => 0) e x u 1 p top))) := by
  refine zWalk.met (nL := 5) (ret := none) (cc := cX5_setRow) (by decide) rfl (Nat.le_of_ble_eq_true rfl) ?_
  intro pg en st mi ag bl mt cd ls CX hW hl
  have CX : zC pg st mi ag mt cd cX5_setRow 5 none RX5 wsX5_setRow := CX
  generalize hQ : MQ bl _ ag st 0 0 _ = Q
  have hX0 := CX.1
  have hB0 := CX.2.1
  have hl : lv_has ls 5 [(0, .ref r), (1, .ref h0), (2, .int (zI x)), (3, .int (zI u))] := hl
  obtain ⟨H, eH⟩ : ∃ H, H = st.heap := ⟨_, rfl⟩
  obtain ⟨locs, eL⟩ : ∃ L : List Loc, L = [] := ⟨_, rfl⟩
  have hW : zW D (zT cI cJ cZ cP cS cM) L (zQ L sz) st f st.heap H locs := by rw [eH, eL]; exact hW
  suffices hgo : W pg l en ({ frames := 1, cells := 0, slots := 0, locals := 28 } : Room) st mi ag bl mt cd H locs 0 0 Q (F0 mi 0 ls []) by rw [eH, eL] at hgo; exact hgo
  clear eH eL
  refine lv_iconst (v := zI 0) hX0 hB0 dX5_setRow_0 rfl ?_
  refine lv_istore (lv' := [(4, .int (zI 0)), (0, .ref r), (1, .ref h0), (2, .int (zI x)), (3, .int (zI u))]) hX0 hB0 dX5_setRow_1 hl (by decide) rfl (fun ls hl => ?_)
  have hL3 : ∀ (fu : Nat) (k : Int) (cl : Nat → Int), (0 ≤ k ∧ k ≤ 625 ∧ ∀ j : Nat, (j : Int) < k → cl j = 0) → (625 - k).toNat < fu → ∀ (H : Heap) (locs : List Loc) (ls : Array Slot), zW D (zT cI cJ cZ cP cS cM) L (zQ L sz) st (va_up f (r + 1) (zA cI 625 cl)) st.heap H locs → lv_has ls 5 [(4, .int (zI k)), (0, .ref r), (1, .ref h0), (2, .int (zI x)), (3, .int (zI u))] → W pg l en ({ frames := 1, cells := 0, slots := 0, locals := 28 } : Room) st mi ag bl mt cd H locs 0 0 Q (F0 mi 3 ls []) := by
    intro fu
    induction fu with
    | zero => intro k cl _ hfu; exact absurd hfu (Nat.not_lt_zero _)
    | succ fu ih3 =>
      intro k cl hinv3 hfu3 H locs ls hW hl
      obtain ⟨hk0, hk1, hck⟩ := hinv3
      refine lv_iload hX0 hB0 dX5_setRow_3 (lv_at hl 0 rfl) ?_
      refine lv_aload_n hX0 hB0 dX5_setRow_5 rfl (lv_at hl 1 rfl) ?_
      refine z_get (Cn := RX5) (T := TX5) (N := 11) CX hW (v := .ref (r + 1)) ((va_up_ne _ _ (by omega)).trans hG.1) rfl (fun w h => List.mem_cons_of_mem _ (List.mem_append_left _ (List.mem_append_right _ h))) 1 (by decide) (List.mem_of_getElem? (i := 1) rfl) rfl rfl dX5_setRow_6 ?_
      refine z_alen (n := 625) CX hW (va_up_self _ _ _) 0 rfl rfl dX5_setRow_9 ?_
      refine z_icmp_ge (tgt := 27) CX dX5_setRow_10 (by decide) (by constructor <;> omega) (by constructor <;> omega) (fun c_10 => ?_) (fun c_10 => ?_)
      ·
        have hW := hW.same (d := fun _ => 0) (fun j hj => hck j (by omega))
        refine lv_aload_n hX0 hB0 dX5_setRow_27 rfl (lv_at hl 1 rfl) ?_
        refine lv_aload_n hX0 hB0 dX5_setRow_28 rfl (lv_at hl 2 rfl) ?_
        refine lv_iload_n hX0 hB0 dX5_setRow_29 rfl (lv_at hl 3 rfl) ?_
        refine lv_iload_n hX0 hB0 dX5_setRow_30 rfl (lv_at hl 4 rfl) ?_
        refine lv_iconst (v := zI 1) hX0 hB0 dX5_setRow_31 rfl ?_
        refine z_callv hW (va_runV (C := RX5) (As := [.ref h0, .int (zI x), .int (zI u), .int (zI 1)]) (rest := []) CX.fix (c_addToRow l (f := va_up f (r + 1) (zA cI 625 ((fun _ => 0)))) r b v p top lc lx ly wd ((fun _ => 0)) col ln h0 h e x u 1 ⟨((va_up_ne _ _ (by omega)).trans hG.1), (va_up_self _ _ _), ((va_up_ne _ _ (by omega)).trans hG.2.2.1), ((va_up_ne _ _ (by omega)).trans hG.2.2.2)⟩ (by omega) (by omega) ((va_up_ne _ _ (by omega)).trans hf0) ((va_up_ne _ _ (by omega)).trans hf1) (by first | assumption | exact zcan_le (by assumption) (by omega)) (by omega) (by omega) (by exact fun _ => by show (0 : Int) ≤ 0 ∧ (0 : Int) < 31; omega) (by omega) (by omega) (by omega)) (cwV 4 CX.fix.2.2.2.2 gX5_setRow_X5_addToRow rfl rfl rfl (by decide +kernel) ⟨Nat.le_of_ble_eq_true rfl, Nat.le_of_ble_eq_true rfl⟩) (z_preV CX hW (r := (RX5, TX5, 11)) ((va_up_ne _ _ (by omega)).trans hG.1) rfl) rfl rfl hl.1 rfl (lv_room (Nat.le_of_ble_eq_true rfl)) dX5_setRow_32 ⟨Nat.zero_le _, Nat.zero_le _⟩) (fun gn H locs hok32 hW => ?_)
        have eg : gn = va_up f (r + 1) (zA cI 625 (zatr ((fun _ => 0)) e x u 1 p top)) := (hok32).trans va_up_up
        rw [eg] at hW
        clear eg
        rw [← hQ]
        exact z_vret CX hW (by rfl) dX5_setRow_35
      ·
        refine lv_aload_n hX0 hB0 dX5_setRow_13 rfl (lv_at hl 1 rfl) ?_
        refine z_get (Cn := RX5) (T := TX5) (N := 11) CX hW (v := .ref (r + 1)) ((va_up_ne _ _ (by omega)).trans hG.1) rfl (fun w h => List.mem_cons_of_mem _ (List.mem_append_left _ (List.mem_append_right _ h))) 1 (by decide) (List.mem_of_getElem? (i := 1) rfl) rfl rfl dX5_setRow_14 ?_
        refine lv_iload hX0 hB0 dX5_setRow_17 (lv_at hl 0 rfl) ?_
        refine lv_iconst (v := zI 0) hX0 hB0 dX5_setRow_19 rfl ?_
        refine z_iast CX hW (va_up_self _ _ _) 0 rfl (by refine ⟨?_, ?_, ?_⟩ <;> omega) (g := va_up f (r + 1) (zA cI 625 (zup cl k.toNat 0))) va_up_up dX5_setRow_20 (fun H locs hW => ?_)
        refine lv_iinc (v := zI (k + 1)) (lv' := [(4, .int (zI (k + 1))), (0, .ref r), (1, .ref h0), (2, .int (zI x)), (3, .int (zI u))]) hX0 hB0 dX5_setRow_21 hl (k := 0) rfl (zI_add _ _) (by decide) rfl (fun ls hl => ?_)
        refine lv_goto (tgt := 3) hX0 hB0 dX5_setRow_24 (by decide) ?_
        exact ih3 (k + 1) (zup cl k.toNat 0) ⟨by omega, by omega, zup_step (b := cl) (q := fun _ => 0) hck hk0 rfl⟩ (by omega) H locs ls hW (lv_sub hl [0, 1, 2, 3, 4] rfl)
  have hW := hW
  rw [show f = va_up f (r + 1) (zA cI 625 row) from by rw [va_up_id (a := (r + 1)) hG.2.1]] at hW
  exact hL3 _ 0 row ⟨by omega, by omega, fun j hj => by omega⟩ (Nat.lt_succ_self _) H locs ls hW (lv_sub hl [0, 1, 2, 3, 4] rfl)
set_option maxRecDepth 100000 in
set_option maxHeartbeats 4000000 in
/-- Ring.findLead -/
theorem c_findLead (l : Launch) {D : va_G} {cI cJ cZ cP cS cM : ClassId} {L : List Nat} {sz : Nat} {f : Nat → va_E} (r b v : Nat) (p top lc lx ly wd : Int) (row col ln : Nat → Int) (vh : Nat) (d : Nat → Int) (hG : zRg cI f r b v p top lc lx ly wd row col ln) (hv0 : f v = .inr (2, [.ref vh])) (hv1 : f vh = zA cI 25 d) (hd : zcan 31 d) (hvr : v < r ∨ r + 6 ≤ v) (hvhr : vh < r ∨ r + 6 ≤ vh) (hlc : 0 ≤ lc ∧ lc ≤ 1) : zMv l yX5_findLead wsX5_findLead 2 43 D (zT cI cJ cZ cP cS cM) L sz f [.ref r] (fun g => g = va_up f r (.inr (5, [.ref b, .ref (r + 1), .ref (r + 2), .ref (r + 3), .ref v, .int (zI p), .int (zI top), .int (zI lc), .int (zI (zflead d lc).1), .int (zI (zflead d lc).2), .int (zI wd)]))) := by
  refine zWalk.met (nL := 4) (ret := none) (cc := cX5_findLead) (by decide) rfl (Nat.le_of_ble_eq_true rfl) ?_
  intro pg en st mi ag bl mt cd ls CX hW hl
  have CX : zC pg st mi ag mt cd cX5_findLead 4 none RX5 wsX5_findLead := CX
  generalize hQ : MQ bl _ ag st 0 0 _ = Q
  have hX0 := CX.1
  have hB0 := CX.2.1
  have hl : lv_has ls 4 [(0, .ref r)] := hl
  obtain ⟨H, eH⟩ : ∃ H, H = st.heap := ⟨_, rfl⟩
  obtain ⟨locs, eL⟩ : ∃ L : List Loc, L = [] := ⟨_, rfl⟩
  have hW : zW D (zT cI cJ cZ cP cS cM) L (zQ L sz) st f st.heap H locs := by rw [eH, eL]; exact hW
  suffices hgo : W pg l en ({ frames := 2, cells := 0, slots := 0, locals := 43 } : Room) st mi ag bl mt cd H locs 0 0 Q (F0 mi 0 ls []) by rw [eH, eL] at hgo; exact hgo
  clear eH eL
  refine lv_aload_n hX0 hB0 dX5_findLead_0 rfl (lv_at hl 0 rfl) ?_
  refine lv_iconst (v := zI 0) hX0 hB0 dX5_findLead_1 rfl ?_
  refine z_put (Cn := RX5) (T := TX5) (N := 11) CX hW (v := .int (zI 0)) hG.1 rfl (fun w h => List.mem_cons_of_mem _ (List.mem_append_left _ (List.mem_append_right _ h))) tyX5 tyX5_ok nmX5 8 (by decide) (List.mem_of_getElem? (i := 1) rfl) rfl rfl rfl rfl (Nat.le_of_ble_eq_true rfl) (g := va_up f r (.inr (5, [.ref b, .ref (r + 1), .ref (r + 2), .ref (r + 3), .ref v, .int (zI p), .int (zI top), .int (zI lc), .int (zI 0), .int (zI ly), .int (zI wd)]))) rfl dX5_findLead_2 (fun H locs hW => ?_)
  refine lv_aload_n hX0 hB0 dX5_findLead_5 rfl (lv_at hl 0 rfl) ?_
  refine lv_iconst (v := zI 0) hX0 hB0 dX5_findLead_6 rfl ?_
  refine z_put (Cn := RX5) (T := TX5) (N := 11) CX hW (v := .int (zI 0)) (va_up_self _ _ _) rfl (fun w h => List.mem_cons_of_mem _ (List.mem_append_left _ (List.mem_append_right _ h))) tyX5 tyX5_ok nmX5 9 (by decide) (List.mem_of_getElem? (i := 2) rfl) rfl rfl rfl rfl (Nat.le_of_ble_eq_true rfl) (g := va_up f r (.inr (5, [.ref b, .ref (r + 1), .ref (r + 2), .ref (r + 3), .ref v, .int (zI p), .int (zI top), .int (zI lc), .int (zI 0), .int (zI 0), .int (zI wd)]))) va_up_up dX5_findLead_7 (fun H locs hW => ?_)
  refine lv_iconst (v := zI 0) hX0 hB0 dX5_findLead_10 rfl ?_
  refine lv_istore_n (lv' := [(1, .int (zI 0)), (0, .ref r)]) hX0 hB0 dX5_findLead_11 rfl hl (by decide) rfl (fun ls hl => ?_)
  have hL12 : ∀ (fu : Nat) (k : Int), (0 ≤ k ∧ k ≤ 5 ∧ zflead d lc = zfleadF d lc (5 - k).toNat k) → (5 - k).toNat < fu → ∀ (H : Heap) (locs : List Loc) (ls : Array Slot), zW D (zT cI cJ cZ cP cS cM) L (zQ L sz) st (va_up f r (.inr (5, [.ref b, .ref (r + 1), .ref (r + 2), .ref (r + 3), .ref v, .int (zI p), .int (zI top), .int (zI lc), .int (zI 0), .int (zI 0), .int (zI wd)]))) st.heap H locs → lv_has ls 4 [(1, .int (zI k)), (0, .ref r)] → W pg l en ({ frames := 2, cells := 0, slots := 0, locals := 43 } : Room) st mi ag bl mt cd H locs 0 0 Q (F0 mi 12 ls []) := by
    intro fu
    induction fu with
    | zero => intro k _ hfu; exact absurd hfu (Nat.not_lt_zero _)
    | succ fu ih12 =>
      intro k hinv12 hfu12 H locs ls hW hl
      obtain ⟨hk0, hk1, hkz⟩ := hinv12
      refine lv_iload_n hX0 hB0 dX5_findLead_12 rfl (lv_at hl 0 rfl) ?_
      refine lv_iconst (v := zI 4) hX0 hB0 dX5_findLead_13 rfl ?_
      refine z_icmp_gt (tgt := 64) CX dX5_findLead_14 (by decide) (by constructor <;> omega) (by constructor <;> omega) (fun c_14 => ?_) (fun c_14 => ?_)
      ·
        rw [← hQ]
        refine z_vret CX hW ?_ dX5_findLead_64
        have hz : zflead d lc = (0, 0) := by rw [hkz, show (5 - k).toNat = 0 by omega]; rfl
        rw [hz]
      ·
        have hJ31 : ∀ (dd : Int), (dd = (if lc = 0 then 4 - k else k) ∧ 0 ≤ dd ∧ dd ≤ 4) → ∀ (H : Heap) (locs : List Loc) (ls : Array Slot), zW D (zT cI cJ cZ cP cS cM) L (zQ L sz) st (va_up f r (.inr (5, [.ref b, .ref (r + 1), .ref (r + 2), .ref (r + 3), .ref v, .int (zI p), .int (zI top), .int (zI lc), .int (zI 0), .int (zI 0), .int (zI wd)]))) st.heap H locs → lv_has ls 4 [(1, .int (zI k)), (0, .ref r)] → W pg l en ({ frames := 2, cells := 0, slots := 0, locals := 43 } : Room) st mi ag bl mt cd H locs 0 0 Q (F0 mi 31 ls [.int (zI dd)]) := by
          intro dd hinv31 H locs ls hW hl
          obtain ⟨hdv, hd0, hd1⟩ := hinv31
          refine lv_istore_n (lv' := [(2, .int (zI dd)), (1, .int (zI k)), (0, .ref r)]) hX0 hB0 dX5_findLead_31 rfl hl (by decide) rfl (fun ls hl => ?_)
          refine lv_aload_n hX0 hB0 dX5_findLead_32 rfl (lv_at hl 2 rfl) ?_
          refine z_get (Cn := RX5) (T := TX5) (N := 11) CX hW (v := .ref v) (va_up_self _ _ _) rfl (fun w h => List.mem_cons_of_mem _ (List.mem_append_left _ (List.mem_append_right _ h))) 4 (by decide) (List.mem_of_getElem? (i := 4) rfl) rfl rfl dX5_findLead_33 ?_
          refine lv_iload_n hX0 hB0 dX5_findLead_36 rfl (lv_at hl 0 rfl) ?_
          refine z_calli hW (va_runV (C := RX2) (As := [.int (zI dd)]) (rest := []) CX.fix (c_leadAt l (f := va_up f r (.inr (5, [.ref b, .ref (r + 1), .ref (r + 2), .ref (r + 3), .ref v, .int (zI p), .int (zI top), .int (zI lc), .int (zI 0), .int (zI 0), .int (zI wd)]))) v vh d dd ((va_up_ne _ _ (by omega)).trans hv0) ((va_up_ne _ _ (by omega)).trans hv1) (by first | assumption | exact zcan_le (by assumption) (by omega)) (by constructor <;> omega)) (cwV 1 CX.fix.2.2.2.2 gX5_findLead_X2_leadAt rfl rfl rfl (by decide +kernel) ⟨Nat.le_of_ble_eq_true rfl, Nat.le_of_ble_eq_true rfl⟩) (z_preV CX hW (r := (RX2, TX2, 1)) ((va_up_ne _ _ (by omega)).trans hv0) rfl) rfl rfl hl.1 rfl (lv_room (Nat.le_of_ble_eq_true rfl)) dX5_findLead_37 ⟨Nat.zero_le _, Nat.zero_le _⟩) (fun zv gn H locs hok37 hW => ?_)
          obtain ⟨ez, eg⟩ := hok37
          have eg : gn = va_up f r (.inr (5, [.ref b, .ref (r + 1), .ref (r + 2), .ref (r + 3), .ref v, .int (zI p), .int (zI top), .int (zI lc), .int (zI 0), .int (zI 0), .int (zI wd)])) := eg
          rw [eg] at hW
          clear eg
          have ez : zv = zlead d dd := ez
          rw [ez]
          clear ez
          have hld37 := zlead_rng d dd (by omega)
          refine lv_istore_n (lv' := [(3, .int (zI (zlead d dd))), (2, .int (zI dd)), (1, .int (zI k)), (0, .ref r)]) hX0 hB0 dX5_findLead_40 rfl hl (by decide) rfl (fun ls hl => ?_)
          refine lv_iload_n hX0 hB0 dX5_findLead_41 rfl (lv_at hl 0 rfl) ?_
          refine z_if_lt (tgt := 58) CX dX5_findLead_42 (by decide) (by constructor <;> omega) (fun c_42 => ?_) (fun c_42 => ?_)
          ·
            refine lv_iinc (v := zI (k + 1)) (lv' := [(1, .int (zI (k + 1))), (3, .int (zI (zlead d dd))), (2, .int (zI dd)), (0, .ref r)]) hX0 hB0 dX5_findLead_58 hl (k := 2) rfl (zI_add _ _) (by decide) rfl (fun ls hl => ?_)
            refine lv_goto (tgt := 12) hX0 hB0 dX5_findLead_61 (by decide) ?_
            exact ih12 (k + 1) ⟨by omega, by omega, by rw [hkz, zfleadF_s d lc (by omega), ← hdv, if_neg (by omega)]⟩ (by omega) H locs ls hW (lv_sub hl [0, 3] rfl)
          ·
            refine lv_aload_n hX0 hB0 dX5_findLead_45 rfl (lv_at hl 3 rfl) ?_
            refine lv_iload_n hX0 hB0 dX5_findLead_46 rfl (lv_at hl 0 rfl) ?_
            refine z_put (Cn := RX5) (T := TX5) (N := 11) CX hW (v := .int (zI (zlead d dd))) (va_up_self _ _ _) rfl (fun w h => List.mem_cons_of_mem _ (List.mem_append_left _ (List.mem_append_right _ h))) tyX5 tyX5_ok nmX5 8 (by decide) (List.mem_of_getElem? (i := 1) rfl) rfl rfl rfl rfl (Nat.le_of_ble_eq_true rfl) (g := va_up f r (.inr (5, [.ref b, .ref (r + 1), .ref (r + 2), .ref (r + 3), .ref v, .int (zI p), .int (zI top), .int (zI lc), .int (zI (zlead d dd)), .int (zI 0), .int (zI wd)]))) va_up_up dX5_findLead_47 (fun H locs hW => ?_)
            refine lv_aload_n hX0 hB0 dX5_findLead_50 rfl (lv_at hl 3 rfl) ?_
            refine lv_iload_n hX0 hB0 dX5_findLead_51 rfl (lv_at hl 1 rfl) ?_
            refine lv_iload_n hX0 hB0 dX5_findLead_52 rfl (lv_at hl 0 rfl) ?_
            refine z_isub (z := dd - (zlead d dd)) CX dX5_findLead_53 rfl ?_
            refine z_put (Cn := RX5) (T := TX5) (N := 11) CX hW (v := .int (zI (dd - (zlead d dd)))) (va_up_self _ _ _) rfl (fun w h => List.mem_cons_of_mem _ (List.mem_append_left _ (List.mem_append_right _ h))) tyX5 tyX5_ok nmX5 9 (by decide) (List.mem_of_getElem? (i := 2) rfl) rfl rfl rfl rfl (Nat.le_of_ble_eq_true rfl) (g := va_up f r (.inr (5, [.ref b, .ref (r + 1), .ref (r + 2), .ref (r + 3), .ref v, .int (zI p), .int (zI top), .int (zI lc), .int (zI (zlead d dd)), .int (zI (dd - (zlead d dd))), .int (zI wd)]))) va_up_up dX5_findLead_54 (fun H locs hW => ?_)
            rw [← hQ]
            refine z_vret CX hW ?_ dX5_findLead_57
            have hz : zflead d lc = (zlead d dd, dd - zlead d dd) := by rw [hkz, zfleadF_s d lc (by omega), ← hdv, if_pos (by omega)]
            rw [hz]
        refine lv_aload_n hX0 hB0 dX5_findLead_17 rfl (lv_at hl 1 rfl) ?_
        refine z_get (Cn := RX5) (T := TX5) (N := 11) CX hW (v := .int (zI lc)) (va_up_self _ _ _) rfl (fun w h => List.mem_cons_of_mem _ (List.mem_append_left _ (List.mem_append_right _ h))) 7 (by decide) (List.mem_of_getElem? (i := 3) rfl) rfl rfl dX5_findLead_18 ?_
        refine z_if_eq (tgt := 28) CX dX5_findLead_21 (by decide) (by constructor <;> omega) (fun c_21 => ?_) (fun c_21 => ?_)
        ·
          refine lv_iconst (v := zI 4) hX0 hB0 dX5_findLead_28 rfl ?_
          refine lv_iload_n hX0 hB0 dX5_findLead_29 rfl (lv_at hl 0 rfl) ?_
          refine z_isub (z := 4 - k) CX dX5_findLead_30 rfl ?_
          exact hJ31 (4 - k) ⟨by first | rw [if_pos c_21] | rw [if_neg c_21], by omega, by omega⟩ H locs ls hW (lv_sub hl [0, 1] rfl)
        ·
          refine lv_iload_n hX0 hB0 dX5_findLead_24 rfl (lv_at hl 0 rfl) ?_
          refine lv_goto (tgt := 31) hX0 hB0 dX5_findLead_25 (by decide) ?_
          exact hJ31 k ⟨by first | rw [if_pos c_21] | rw [if_neg c_21], by omega, by omega⟩ H locs ls hW (lv_sub hl [0, 1] rfl)
  exact hL12 _ 0 ⟨by omega, by omega, rfl⟩ (Nat.lt_succ_self _) H locs ls hW (lv_sub hl [0, 1] rfl)
set_option maxRecDepth 100000 in
set_option maxHeartbeats 4000000 in
/-- Ring.reduceRow -/
theorem c_reduceRow (l : Launch) {D : va_G} {cI cJ cZ cP cS cM : ClassId} {L : List Nat} {sz : Nat} {f : Nat → va_E} (r b v : Nat) (p top lc lx ly wd : Int) (row col ln : Nat → Int) (vh : Nat) (d : Nat → Int) (hG : zRg cI f r b v p top lc lx ly wd row col ln) (hp : 2 ≤ p ∧ p ≤ 31) (htop : 0 ≤ top ∧ top ≤ 24) (hv0 : f v = .inr (2, [.ref vh])) (hv1 : f vh = zA cI 25 d) (hd : zcan 31 d) (hvr : v < r ∨ r + 6 ≤ v) (hvhr : vh < r ∨ r + 6 ≤ vh) (hlx : 0 ≤ lx) (hly : 0 ≤ ly) (hlxy : lx + ly ≤ 4) (hlc : 0 ≤ lc ∧ lc ≤ 1) (hrow : zcan 31 row) : zMv l yX5_reduceRow wsX5_reduceRow 2 43 D (zT cI cJ cZ cP cS cM) L sz f [.ref r] (fun g => g = va_up f (r + 1) (zA cI 625 (zredr row d lx ly p top lc))) := by
  refine zWalk.met (nL := 7) (ret := none) (cc := cX5_reduceRow) (by decide) rfl (Nat.le_of_ble_eq_true rfl) ?_
  intro pg en st mi ag bl mt cd ls CX hW hl
  have CX : zC pg st mi ag mt cd cX5_reduceRow 7 none RX5 wsX5_reduceRow := CX
  generalize hQ : MQ bl _ ag st 0 0 _ = Q
  have hX0 := CX.1
  have hB0 := CX.2.1
  have hl : lv_has ls 7 [(0, .ref r)] := hl
  obtain ⟨H, eH⟩ : ∃ H, H = st.heap := ⟨_, rfl⟩
  obtain ⟨locs, eL⟩ : ∃ L : List Loc, L = [] := ⟨_, rfl⟩
  have hW : zW D (zT cI cJ cZ cP cS cM) L (zQ L sz) st f st.heap H locs := by rw [eH, eL]; exact hW
  suffices hgo : W pg l en ({ frames := 2, cells := 0, slots := 0, locals := 43 } : Room) st mi ag bl mt cd H locs 0 0 Q (F0 mi 0 ls []) by rw [eH, eL] at hgo; exact hgo
  clear eH eL
  refine lv_aload_n hX0 hB0 dX5_reduceRow_0 rfl (lv_at hl 0 rfl) ?_
  refine z_get (Cn := RX5) (T := TX5) (N := 11) CX hW (v := .ref v) hG.1 rfl (fun w h => List.mem_cons_of_mem _ (List.mem_append_left _ (List.mem_append_right _ h))) 4 (by decide) (List.mem_of_getElem? (i := 1) rfl) rfl rfl dX5_reduceRow_1 ?_
  refine lv_aload_n hX0 hB0 dX5_reduceRow_4 rfl (lv_at hl 0 rfl) ?_
  refine z_get (Cn := RX5) (T := TX5) (N := 11) CX hW (v := .int (zI lx)) hG.1 rfl (fun w h => List.mem_cons_of_mem _ (List.mem_append_left _ (List.mem_append_right _ h))) 8 (by decide) (List.mem_of_getElem? (i := 2) rfl) rfl rfl dX5_reduceRow_5 ?_
  refine lv_aload_n hX0 hB0 dX5_reduceRow_8 rfl (lv_at hl 0 rfl) ?_
  refine z_get (Cn := RX5) (T := TX5) (N := 11) CX hW (v := .int (zI ly)) hG.1 rfl (fun w h => List.mem_cons_of_mem _ (List.mem_append_left _ (List.mem_append_right _ h))) 9 (by decide) (List.mem_of_getElem? (i := 3) rfl) rfl rfl dX5_reduceRow_9 ?_
  refine z_calli hW (va_runV (C := RX2) (As := [.int (zI lx), .int (zI ly)]) (rest := []) CX.fix (c_at l (f := f) v vh d lx ly hv0 hv1 (by constructor <;> omega) (by constructor <;> omega)) (cwV 2 CX.fix.2.2.2.2 gX5_reduceRow_X2_at rfl rfl rfl (by decide +kernel) ⟨Nat.le_of_ble_eq_true rfl, Nat.le_of_ble_eq_true rfl⟩) (z_preV CX hW (r := (RX2, TX2, 1)) hv0 rfl) rfl rfl hl.1 rfl (lv_room (Nat.le_of_ble_eq_true rfl)) dX5_reduceRow_12 ⟨Nat.zero_le _, Nat.zero_le _⟩) (fun zv gn H locs hok12 hW => ?_)
  obtain ⟨ez, eg⟩ := hok12
  have eg : gn = f := eg
  rw [eg] at hW
  clear eg
  have ez : zv = zat d lx ly := ez
  rw [ez]
  clear ez
  have hat := zat_can (p := 31) (by omega) hd lx ly
  refine lv_aload_n hX0 hB0 dX5_reduceRow_15 rfl (lv_at hl 0 rfl) ?_
  refine z_get (Cn := RX5) (T := TX5) (N := 11) CX hW (v := .int (zI p)) hG.1 rfl (fun w h => List.mem_cons_of_mem _ (List.mem_append_left _ (List.mem_append_right _ h))) 5 (by decide) (List.mem_of_getElem? (i := 4) rfl) rfl rfl dX5_reduceRow_16 ?_
  refine z_calli hW (va_runSN (As := [.int (zI (zat d lx ly)), .int (zI p)]) (rest := []) CX.fix (c_inverse l (f := f) (zat d lx ly) p (by constructor <;> omega) (by constructor <;> omega)) ⟨va_cnB (own := RX5) (host := "CurveMeets") (index := 104) 2 CX.fix.2.2.2.2 ggX5_reduceRow_X11_inverse rfl rfl rfl (CX.2.2.2.2.2.2.2.1 _ (by decide +kernel)) (CX.at (List.mem_of_getElem? (i := 18) rfl)) (by decide +kernel) ⟨Nat.le_of_ble_eq_true rfl, Nat.le_of_ble_eq_true rfl⟩, CX.at (List.mem_of_getElem? (i := 17) rfl), trivial⟩ (z_preS CX hW) rfl rfl hl.1 rfl (lv_room (Nat.le_of_ble_eq_true rfl)) dX5_reduceRow_19 ⟨Nat.zero_le _, Nat.zero_le _⟩) (fun zv gn H locs hok19 hW => ?_)
  obtain ⟨ez, eg⟩ := hok19
  have eg : gn = f := eg
  rw [eg] at hW
  clear eg
  have ez : zv = zinv (zat d lx ly) p := ez
  rw [ez]
  clear ez
  have hinv19 := zinv_rng (zat d lx ly) (p := p) (by omega)
  refine lv_istore_n (lv' := [(1, .int (zI (zinv (zat d lx ly) p))), (0, .ref r)]) hX0 hB0 dX5_reduceRow_22 rfl hl (by decide) rfl (fun ls hl => ?_)
  refine lv_iconst (v := zI 0) hX0 hB0 dX5_reduceRow_23 rfl ?_
  refine lv_istore_n (lv' := [(2, .int (zI 0)), (1, .int (zI (zinv (zat d lx ly) p))), (0, .ref r)]) hX0 hB0 dX5_reduceRow_24 rfl hl (by decide) rfl (fun ls hl => ?_)
  have hL25 : ∀ (fu : Nat) (k : Int) (co : Nat → Int), (0 ≤ k ∧ (k ≤ top + 1 ∨ k = 0) ∧ co = zfor (zredr_out d (zinv (zat d lx ly) p) lx ly p top lc) 0 row (k - 0).toNat ∧ zcan 31 co) → (top + 1 - k).toNat < fu → ∀ (H : Heap) (locs : List Loc) (ls : Array Slot), zW D (zT cI cJ cZ cP cS cM) L (zQ L sz) st (va_up f (r + 1) (zA cI 625 co)) st.heap H locs → lv_has ls 7 [(2, .int (zI k)), (1, .int (zI (zinv (zat d lx ly) p))), (0, .ref r)] → W pg l en ({ frames := 2, cells := 0, slots := 0, locals := 43 } : Room) st mi ag bl mt cd H locs 0 0 Q (F0 mi 25 ls []) := by
    intro fu
    induction fu with
    | zero => intro k co _ hfu; exact absurd hfu (Nat.not_lt_zero _)
    | succ fu ih25 =>
      intro k co hinv25 hfu25 H locs ls hW hl
      obtain ⟨hk0, hk1, heco, hco⟩ := hinv25
      refine lv_iload_n hX0 hB0 dX5_reduceRow_25 rfl (lv_at hl 0 rfl) ?_
      refine lv_aload_n hX0 hB0 dX5_reduceRow_26 rfl (lv_at hl 2 rfl) ?_
      refine z_get (Cn := RX5) (T := TX5) (N := 11) CX hW (v := .int (zI top)) ((va_up_ne _ _ (by omega)).trans hG.1) rfl (fun w h => List.mem_cons_of_mem _ (List.mem_append_left _ (List.mem_append_right _ h))) 6 (by decide) (List.mem_of_getElem? (i := 5) rfl) rfl rfl dX5_reduceRow_27 ?_
      refine z_icmp_gt (tgt := 142) CX dX5_reduceRow_30 (by decide) (by constructor <;> omega) (by constructor <;> omega) (fun c_30 => ?_) (fun c_30 => ?_)
      ·
        rw [← hQ]
        exact z_vret CX hW (by rw [heco, show (k - 0).toNat = (top + 1 - 0).toNat by omega]; rfl) dX5_reduceRow_142
      ·
        have hJ50 : ∀ (dd : Int), (dd = (if lc = 0 then top - k else k) ∧ 0 ≤ dd ∧ dd ≤ top) → ∀ (H : Heap) (locs : List Loc) (ls : Array Slot), zW D (zT cI cJ cZ cP cS cM) L (zQ L sz) st (va_up f (r + 1) (zA cI 625 co)) st.heap H locs → lv_has ls 7 [(2, .int (zI k)), (1, .int (zI (zinv (zat d lx ly) p))), (0, .ref r)] → W pg l en ({ frames := 2, cells := 0, slots := 0, locals := 43 } : Room) st mi ag bl mt cd H locs 0 0 Q (F0 mi 50 ls [.int (zI dd)]) := by
          intro dd hinv50 H locs ls hW hl
          obtain ⟨hdv, hd0, hd1⟩ := hinv50
          refine lv_istore_n (lv' := [(3, .int (zI dd)), (2, .int (zI k)), (1, .int (zI (zinv (zat d lx ly) p))), (0, .ref r)]) hX0 hB0 dX5_reduceRow_50 rfl hl (by decide) rfl (fun ls hl => ?_)
          refine lv_iload_n hX0 hB0 dX5_reduceRow_51 rfl (lv_at hl 0 rfl) ?_
          refine lv_aload_n hX0 hB0 dX5_reduceRow_52 rfl (lv_at hl 3 rfl) ?_
          refine z_get (Cn := RX5) (T := TX5) (N := 11) CX hW (v := .int (zI ly)) ((va_up_ne _ _ (by omega)).trans hG.1) rfl (fun w h => List.mem_cons_of_mem _ (List.mem_append_left _ (List.mem_append_right _ h))) 9 (by decide) (List.mem_of_getElem? (i := 3) rfl) rfl rfl dX5_reduceRow_53 ?_
          refine z_isub (z := dd - ly) CX dX5_reduceRow_56 rfl ?_
          refine lv_istore (lv' := [(4, .int (zI (dd - ly))), (3, .int (zI dd)), (2, .int (zI k)), (1, .int (zI (zinv (zat d lx ly) p))), (0, .ref r)]) hX0 hB0 dX5_reduceRow_57 hl (by decide) rfl (fun ls hl => ?_)
          have hL59 : ∀ (fu : Nat) (i : Int) (ce : Nat → Int), (i ≤ dd - ly ∧ (lx - 1 ≤ i ∨ i = dd - ly) ∧ ce = zforD (zredr_in d (zinv (zat d lx ly) p) lx ly p top dd) (dd - ly) co (dd - ly - i).toNat ∧ zcan 31 ce) → (i + 10).toNat < fu → ∀ (H : Heap) (locs : List Loc) (ls : Array Slot), zW D (zT cI cJ cZ cP cS cM) L (zQ L sz) st (va_up f (r + 1) (zA cI 625 ce)) st.heap H locs → lv_has ls 7 [(4, .int (zI i)), (3, .int (zI dd)), (2, .int (zI k)), (1, .int (zI (zinv (zat d lx ly) p))), (0, .ref r)] → W pg l en ({ frames := 2, cells := 0, slots := 0, locals := 43 } : Room) st mi ag bl mt cd H locs 0 0 Q (F0 mi 59 ls []) := by
            intro fu
            induction fu with
            | zero => intro i ce _ hfu; exact absurd hfu (Nat.not_lt_zero _)
            | succ fu ih59 =>
              intro i ce hinv59 hfu59 H locs ls hW hl
              obtain ⟨hi0, hi1, hece, hce⟩ := hinv59
              refine lv_iload hX0 hB0 dX5_reduceRow_59 (lv_at hl 0 rfl) ?_
              refine lv_aload_n hX0 hB0 dX5_reduceRow_61 rfl (lv_at hl 4 rfl) ?_
              refine z_get (Cn := RX5) (T := TX5) (N := 11) CX hW (v := .int (zI lx)) ((va_up_ne _ _ (by omega)).trans hG.1) rfl (fun w h => List.mem_cons_of_mem _ (List.mem_append_left _ (List.mem_append_right _ h))) 8 (by decide) (List.mem_of_getElem? (i := 2) rfl) rfl rfl dX5_reduceRow_62 ?_
              refine z_icmp_lt (tgt := 136) CX dX5_reduceRow_65 (by decide) (by constructor <;> omega) (by constructor <;> omega) (fun c_65 => ?_) (fun c_65 => ?_)
              ·
                refine lv_iinc (v := zI (k + 1)) (lv' := [(2, .int (zI (k + 1))), (4, .int (zI i)), (3, .int (zI dd)), (1, .int (zI (zinv (zat d lx ly) p))), (0, .ref r)]) hX0 hB0 dX5_reduceRow_136 hl (k := 2) rfl (zI_add _ _) (by decide) rfl (fun ls hl => ?_)
                refine lv_goto (tgt := 25) hX0 hB0 dX5_reduceRow_139 (by decide) ?_
                exact ih25 (k + 1) ce ⟨by omega, by omega, by rw [zfor_s _ _ _ hk0, ← heco]; rw [hece, hdv]; show zforD _ _ co _ = zforD _ _ co _; congr 1; rw [← hdv]; omega, hce⟩ (by omega) H locs ls hW (lv_sub hl [0, 3, 4] rfl)
              ·
                refine lv_aload_n hX0 hB0 dX5_reduceRow_68 rfl (lv_at hl 4 rfl) ?_
                refine z_get (Cn := RX5) (T := TX5) (N := 11) CX hW (v := .ref (r + 1)) ((va_up_ne _ _ (by omega)).trans hG.1) rfl (fun w h => List.mem_cons_of_mem _ (List.mem_append_left _ (List.mem_append_right _ h))) 1 (by decide) (List.mem_of_getElem? (i := 7) rfl) rfl rfl dX5_reduceRow_69 ?_
                refine lv_iload hX0 hB0 dX5_reduceRow_72 (lv_at hl 0 rfl) ?_
                refine lv_bipush (v := zI 25) hX0 hB0 dX5_reduceRow_74 (by decide) ?_
                refine z_imul (z := i * 25) CX dX5_reduceRow_76 rfl ?_
                refine lv_iload_n hX0 hB0 dX5_reduceRow_77 rfl (lv_at hl 1 rfl) ?_
                refine z_iadd (z := (i * 25) + dd) CX dX5_reduceRow_78 rfl ?_
                refine lv_iload hX0 hB0 dX5_reduceRow_79 (lv_at hl 0 rfl) ?_
                refine z_isub (z := ((i * 25) + dd) - i) CX dX5_reduceRow_81 rfl ?_
                refine z_iald (z := ce ((((i * 25) + dd) - i).toNat)) CX hW (va_up_self _ _ _) 0 rfl (by refine ⟨?_, ?_, ?_⟩ <;> omega) rfl dX5_reduceRow_82 ?_
                have hr1 := hce ((((i * 25) + dd) - i).toNat)
                refine lv_istore (lv' := [(5, .int (zI (ce ((((i * 25) + dd) - i).toNat)))), (4, .int (zI i)), (3, .int (zI dd)), (2, .int (zI k)), (1, .int (zI (zinv (zat d lx ly) p))), (0, .ref r)]) hX0 hB0 dX5_reduceRow_83 hl (by decide) rfl (fun ls hl => ?_)
                refine lv_iload hX0 hB0 dX5_reduceRow_85 (lv_at hl 0 rfl) ?_
                refine z_if_eq (tgt := 130) CX dX5_reduceRow_87 (by decide) (by constructor <;> omega) (fun c_87 => ?_) (fun c_87 => ?_)
                ·
                  refine lv_iinc (v := zI (i + (-1))) (lv' := [(4, .int (zI (i + (-1)))), (5, .int (zI (ce ((((i * 25) + dd) - i).toNat)))), (3, .int (zI dd)), (2, .int (zI k)), (1, .int (zI (zinv (zat d lx ly) p))), (0, .ref r)]) hX0 hB0 dX5_reduceRow_130 hl (k := 1) rfl (zI_add _ _) (by decide) rfl (fun ls hl => ?_)
                  refine lv_goto (tgt := 59) hX0 hB0 dX5_reduceRow_133 (by decide) ?_
                  exact ih59 (i + (-1)) ce ⟨by omega, by omega, by rw [zforD_t _ _ _ hi0, ← hece]; first | exact (if_neg (fun h => h c_87)).symm | exact (if_pos c_87).symm, by first | exact hce | exact zatr_can (by omega) (by omega) hce⟩ (by omega) H locs ls hW (lv_sub hl [0, 2, 3, 4, 5] rfl)
                ·
                  refine lv_iload hX0 hB0 dX5_reduceRow_90 (lv_at hl 0 rfl) ?_
                  refine z_ineg (z := -(ce ((((i * 25) + dd) - i).toNat))) CX dX5_reduceRow_92 rfl ?_
                  refine lv_iload_n hX0 hB0 dX5_reduceRow_93 rfl (lv_at hl 4 rfl) ?_
                  refine z_imul (z := (-(ce ((((i * 25) + dd) - i).toNat))) * (zinv (zat d lx ly) p)) CX dX5_reduceRow_94 rfl ?_
                  refine lv_aload_n hX0 hB0 dX5_reduceRow_95 rfl (lv_at hl 5 rfl) ?_
                  refine z_get (Cn := RX5) (T := TX5) (N := 11) CX hW (v := .int (zI p)) ((va_up_ne _ _ (by omega)).trans hG.1) rfl (fun w h => List.mem_cons_of_mem _ (List.mem_append_left _ (List.mem_append_right _ h))) 5 (by decide) (List.mem_of_getElem? (i := 4) rfl) rfl rfl dX5_reduceRow_96 ?_
                  refine z_calli hW (va_runSN (As := [.int (zI ((-(ce ((((i * 25) + dd) - i).toNat))) * (zinv (zat d lx ly) p))), .int (zI p)]) (rest := []) CX.fix (c_mod l (f := va_up f (r + 1) (zA cI 625 ce)) ((-(ce ((((i * 25) + dd) - i).toNat))) * (zinv (zat d lx ly) p)) p (by have hrn := hce (i * 25 + dd - i).toNat; have hmq := zmul_rng (a := ce (i * 25 + dd - i).toNat) (b := zinv (zat d lx ly) p) (A := 31) (B := 31) (by omega) (by omega); rw [Int.neg_mul]; constructor <;> omega) (by constructor <;> omega)) ⟨va_cnB (own := RX5) (host := "CurveMeets") (index := 107) 2 CX.fix.2.2.2.2 ggX5_reduceRow_X11_mod rfl rfl rfl (CX.2.2.2.2.2.2.2.1 _ (by decide +kernel)) (CX.at (List.mem_of_getElem? (i := 18) rfl)) (by decide +kernel) ⟨Nat.le_of_ble_eq_true rfl, Nat.le_of_ble_eq_true rfl⟩, CX.at (List.mem_of_getElem? (i := 20) rfl), trivial⟩ (z_preS CX hW) rfl rfl hl.1 rfl (lv_room (Nat.le_of_ble_eq_true rfl)) dX5_reduceRow_99 ⟨Nat.zero_le _, Nat.zero_le _⟩) (fun zv gn H locs hok99 hW => ?_)
                  obtain ⟨ez, eg⟩ := hok99
                  have eg : gn = va_up f (r + 1) (zA cI 625 ce) := eg
                  rw [eg] at hW
                  clear eg
                  have ez : zv = ((-(ce ((((i * 25) + dd) - i).toNat))) * (zinv (zat d lx ly) p)) % p := ez
                  rw [ez]
                  clear ez
                  have hm99 := zmr ((-(ce ((((i * 25) + dd) - i).toNat))) * (zinv (zat d lx ly) p)) (p := p) (by omega)
                  refine lv_istore (lv' := [(6, .int (zI (((-(ce ((((i * 25) + dd) - i).toNat))) * (zinv (zat d lx ly) p)) % p))), (5, .int (zI (ce ((((i * 25) + dd) - i).toNat)))), (4, .int (zI i)), (3, .int (zI dd)), (2, .int (zI k)), (1, .int (zI (zinv (zat d lx ly) p))), (0, .ref r)]) hX0 hB0 dX5_reduceRow_102 hl (by decide) rfl (fun ls hl => ?_)
                  refine lv_aload_n hX0 hB0 dX5_reduceRow_104 rfl (lv_at hl 6 rfl) ?_
                  refine lv_aload_n hX0 hB0 dX5_reduceRow_105 rfl (lv_at hl 6 rfl) ?_
                  refine z_get (Cn := RX5) (T := TX5) (N := 11) CX hW (v := .ref v) ((va_up_ne _ _ (by omega)).trans hG.1) rfl (fun w h => List.mem_cons_of_mem _ (List.mem_append_left _ (List.mem_append_right _ h))) 4 (by decide) (List.mem_of_getElem? (i := 1) rfl) rfl rfl dX5_reduceRow_106 ?_
                  refine lv_iload hX0 hB0 dX5_reduceRow_109 (lv_at hl 2 rfl) ?_
                  refine lv_aload_n hX0 hB0 dX5_reduceRow_111 rfl (lv_at hl 6 rfl) ?_
                  refine z_get (Cn := RX5) (T := TX5) (N := 11) CX hW (v := .int (zI lx)) ((va_up_ne _ _ (by omega)).trans hG.1) rfl (fun w h => List.mem_cons_of_mem _ (List.mem_append_left _ (List.mem_append_right _ h))) 8 (by decide) (List.mem_of_getElem? (i := 2) rfl) rfl rfl dX5_reduceRow_112 ?_
                  refine z_isub (z := i - lx) CX dX5_reduceRow_115 rfl ?_
                  refine lv_iload_n hX0 hB0 dX5_reduceRow_116 rfl (lv_at hl 3 rfl) ?_
                  refine lv_iload hX0 hB0 dX5_reduceRow_117 (lv_at hl 2 rfl) ?_
                  refine z_isub (z := dd - i) CX dX5_reduceRow_119 rfl ?_
                  refine lv_aload_n hX0 hB0 dX5_reduceRow_120 rfl (lv_at hl 6 rfl) ?_
                  refine z_get (Cn := RX5) (T := TX5) (N := 11) CX hW (v := .int (zI ly)) ((va_up_ne _ _ (by omega)).trans hG.1) rfl (fun w h => List.mem_cons_of_mem _ (List.mem_append_left _ (List.mem_append_right _ h))) 9 (by decide) (List.mem_of_getElem? (i := 3) rfl) rfl rfl dX5_reduceRow_121 ?_
                  refine z_isub (z := (dd - i) - ly) CX dX5_reduceRow_124 rfl ?_
                  refine lv_iload hX0 hB0 dX5_reduceRow_125 (lv_at hl 0 rfl) ?_
                  refine z_callv hW (va_runV (C := RX5) (As := [.ref v, .int (zI (i - lx)), .int (zI ((dd - i) - ly)), .int (zI (((-(ce ((((i * 25) + dd) - i).toNat))) * (zinv (zat d lx ly) p)) % p))]) (rest := []) CX.fix (c_addToRow l (f := va_up f (r + 1) (zA cI 625 ce)) r b v p top lc lx ly wd ce col ln v vh d (i - lx) ((dd - i) - ly) (((-(ce ((((i * 25) + dd) - i).toNat))) * (zinv (zat d lx ly) p)) % p) ⟨((va_up_ne _ _ (by omega)).trans hG.1), (va_up_self _ _ _), ((va_up_ne _ _ (by omega)).trans hG.2.2.1), ((va_up_ne _ _ (by omega)).trans hG.2.2.2)⟩ (by omega) (by omega) ((va_up_ne _ _ (by omega)).trans hv0) ((va_up_ne _ _ (by omega)).trans hv1) (by first | assumption | exact zcan_le (by assumption) (by omega)) (by omega) (by omega) (by first | assumption | exact zcan_le (by assumption) (by omega)) (by omega) (by omega) (by omega)) (cwV 4 CX.fix.2.2.2.2 gX5_reduceRow_X5_addToRow rfl rfl rfl (by decide +kernel) ⟨Nat.le_of_ble_eq_true rfl, Nat.le_of_ble_eq_true rfl⟩) (z_preV CX hW (r := (RX5, TX5, 11)) ((va_up_ne _ _ (by omega)).trans hG.1) rfl) rfl rfl hl.1 rfl (lv_room (Nat.le_of_ble_eq_true rfl)) dX5_reduceRow_127 ⟨Nat.zero_le _, Nat.zero_le _⟩) (fun gn H locs hok127 hW => ?_)
                  have eg : gn = va_up f (r + 1) (zA cI 625 (zatr ce d (i - lx) ((dd - i) - ly) (((-(ce ((((i * 25) + dd) - i).toNat))) * (zinv (zat d lx ly) p)) % p) p top)) := (hok127).trans va_up_up
                  rw [eg] at hW
                  clear eg
                  refine lv_iinc (v := zI (i + (-1))) (lv' := [(4, .int (zI (i + (-1)))), (6, .int (zI (((-(ce ((((i * 25) + dd) - i).toNat))) * (zinv (zat d lx ly) p)) % p))), (5, .int (zI (ce ((((i * 25) + dd) - i).toNat)))), (3, .int (zI dd)), (2, .int (zI k)), (1, .int (zI (zinv (zat d lx ly) p))), (0, .ref r)]) hX0 hB0 dX5_reduceRow_130 hl (k := 2) rfl (zI_add _ _) (by decide) rfl (fun ls hl => ?_)
                  refine lv_goto (tgt := 59) hX0 hB0 dX5_reduceRow_133 (by decide) ?_
                  exact ih59 (i + (-1)) (zatr ce d (i - lx) ((dd - i) - ly) (((-(ce ((((i * 25) + dd) - i).toNat))) * (zinv (zat d lx ly) p)) % p) p top) ⟨by omega, by omega, by rw [zforD_t _ _ _ hi0, ← hece]; first | exact (if_neg (fun h => h c_87)).symm | exact (if_pos c_87).symm, by first | exact hce | exact zatr_can (by omega) (by omega) hce⟩ (by omega) H locs ls hW (lv_sub hl [0, 3, 4, 5, 6] rfl)
          exact hL59 _ (dd - ly) co ⟨by omega, by omega, (zforD_0 _ _ _ (Int.le_refl _)).symm, hco⟩ (Nat.lt_succ_self _) H locs ls hW (lv_sub hl [0, 1, 2, 3, 4] rfl)
        refine lv_aload_n hX0 hB0 dX5_reduceRow_33 rfl (lv_at hl 2 rfl) ?_
        refine z_get (Cn := RX5) (T := TX5) (N := 11) CX hW (v := .int (zI lc)) ((va_up_ne _ _ (by omega)).trans hG.1) rfl (fun w h => List.mem_cons_of_mem _ (List.mem_append_left _ (List.mem_append_right _ h))) 7 (by decide) (List.mem_of_getElem? (i := 6) rfl) rfl rfl dX5_reduceRow_34 ?_
        refine z_if_eq (tgt := 44) CX dX5_reduceRow_37 (by decide) (by constructor <;> omega) (fun c_37 => ?_) (fun c_37 => ?_)
        ·
          refine lv_aload_n hX0 hB0 dX5_reduceRow_44 rfl (lv_at hl 2 rfl) ?_
          refine z_get (Cn := RX5) (T := TX5) (N := 11) CX hW (v := .int (zI top)) ((va_up_ne _ _ (by omega)).trans hG.1) rfl (fun w h => List.mem_cons_of_mem _ (List.mem_append_left _ (List.mem_append_right _ h))) 6 (by decide) (List.mem_of_getElem? (i := 5) rfl) rfl rfl dX5_reduceRow_45 ?_
          refine lv_iload_n hX0 hB0 dX5_reduceRow_48 rfl (lv_at hl 0 rfl) ?_
          refine z_isub (z := top - k) CX dX5_reduceRow_49 rfl ?_
          exact hJ50 (top - k) ⟨by first | rw [if_pos c_37] | rw [if_neg c_37], by omega, by omega⟩ H locs ls hW (lv_sub hl [0, 1, 2] rfl)
        ·
          refine lv_iload_n hX0 hB0 dX5_reduceRow_40 rfl (lv_at hl 0 rfl) ?_
          refine lv_goto (tgt := 50) hX0 hB0 dX5_reduceRow_41 (by decide) ?_
          exact hJ50 k ⟨by first | rw [if_pos c_37] | rw [if_neg c_37], by omega, by omega⟩ H locs ls hW (lv_sub hl [0, 1, 2] rfl)
  have hW := hW
  rw [show f = va_up f (r + 1) (zA cI 625 row) from by rw [va_up_id (a := (r + 1)) hG.2.1]] at hW
  exact hL25 _ 0 row ⟨by omega, Or.inr rfl, (zfor_0 _ _ _).symm, hrow⟩ (Nat.lt_succ_self _) H locs ls hW (lv_sub hl [0, 1, 2] rfl)
set_option maxRecDepth 100000 in
set_option maxHeartbeats 4000000 in
/-- Ring.addRow -/
theorem c_addRow (l : Launch) {D : va_G} {cI cJ cZ cP cS cM : ClassId} {L : List Nat} {sz : Nat} {f : Nat → va_E} (r b v : Nat) (p top lc lx ly wd : Int) (row col ln : Nat → Int) (R : Nat → Nat → Int) (K : Nat → Int) (hG : zRg cI f r b v p top lc lx ly wd row col ln) (hp : 2 ≤ p ∧ p ≤ 31) (htop : 0 ≤ top ∧ top ≤ 24) (hS : zSpace cI cZ cM f b wd wd p R K) (hR : ∀ i, zcan 31 (R i)) (hwd : 0 ≤ wd ∧ wd ≤ 94) (hbr : b + 97 ≤ r ∨ r + 6 ≤ b) (hcol : ∀ k, -1 ≤ col k ∧ col k ≤ 93) (hrow : zcan p row) : zMi l yX5_addRow wsX5_addRow 3 72 D (zT cI cJ cZ cP cS cM) L sz f [.ref r] (fun z g => z = zsp1 K R wd wd p (zrl row col top) ∧ (∀ q, ¬ (b ≤ q ∧ q < b + 97) ∧ q ≠ r + 3 → g q = f q) ∧ g (r + 3) = zA cI 94 (zspan K R wd wd p (zrl row col top)).2 ∧ zSpace cI cZ cM g b wd wd p (zspR K R wd wd p (zrl row col top)) (zspK K R wd wd p (zrl row col top))) := by
  refine zWalk.met (nL := 4) (ret := (some .boolean)) (cc := cX5_addRow) (by decide) rfl (Nat.le_of_ble_eq_true rfl) ?_
  intro pg en st mi ag bl mt cd ls CX hW hl
  have CX : zC pg st mi ag mt cd cX5_addRow 4 (some .boolean) RX5 wsX5_addRow := CX
  generalize hQ : MQ bl _ ag st 0 0 _ = Q
  have hX0 := CX.1
  have hB0 := CX.2.1
  have hl : lv_has ls 4 [(0, .ref r)] := hl
  obtain ⟨H, eH⟩ : ∃ H, H = st.heap := ⟨_, rfl⟩
  obtain ⟨locs, eL⟩ : ∃ L : List Loc, L = [] := ⟨_, rfl⟩
  have hW : zW D (zT cI cJ cZ cP cS cM) L (zQ L sz) st f st.heap H locs := by rw [eH, eL]; exact hW
  suffices hgo : W pg l en ({ frames := 3, cells := 0, slots := 0, locals := 72 } : Room) st mi ag bl mt cd H locs 0 0 Q (F0 mi 0 ls []) by rw [eH, eL] at hgo; exact hgo
  clear eH eL
  refine lv_aload_n hX0 hB0 dX5_addRow_0 rfl (lv_at hl 0 rfl) ?_
  refine z_callv hW (va_runV (C := RX5) (As := []) (rest := []) CX.fix (c_clearLine l (f := f) r b v p top lc lx ly wd row col ln ⟨hG.1, hG.2.1, hG.2.2.1, hG.2.2.2⟩) (cwV 0 CX.fix.2.2.2.2 gX5_addRow_X5_clearLine rfl rfl rfl (by decide +kernel) ⟨Nat.le_of_ble_eq_true rfl, Nat.le_of_ble_eq_true rfl⟩) (z_preV CX hW (r := (RX5, TX5, 11)) hG.1 rfl) rfl rfl hl.1 rfl (lv_room (Nat.le_of_ble_eq_true rfl)) dX5_addRow_1 ⟨Nat.zero_le _, Nat.zero_le _⟩) (fun gn H locs hok1 hW => ?_)
  have eg : gn = va_up f (r + 3) (zA cI 94 ((fun _ => 0))) := hok1
  rw [eg] at hW
  clear eg
  refine lv_iconst (v := zI 0) hX0 hB0 dX5_addRow_4 rfl ?_
  refine lv_istore_n (lv' := [(1, .int (zI 0)), (0, .ref r)]) hX0 hB0 dX5_addRow_5 rfl hl (by decide) rfl (fun ls hl => ?_)
  have hL6 : ∀ (fu : Nat) (i : Int) (co : Nat → Int), (0 ≤ i ∧ (i ≤ top + 1 ∨ i = 0) ∧ co = zfor (zrl_out row col top) 0 ((fun _ => 0)) (i - 0).toNat ∧ True) → (top + 1 - i).toNat < fu → ∀ (H : Heap) (locs : List Loc) (ls : Array Slot), zW D (zT cI cJ cZ cP cS cM) L (zQ L sz) st (va_up f (r + 3) (zA cI 94 co)) st.heap H locs → lv_has ls 4 [(1, .int (zI i)), (0, .ref r)] → W pg l en ({ frames := 3, cells := 0, slots := 0, locals := 72 } : Room) st mi ag bl mt cd H locs 0 0 Q (F0 mi 6 ls []) := by
    intro fu
    induction fu with
    | zero => intro i co _ hfu; exact absurd hfu (Nat.not_lt_zero _)
    | succ fu ih6 =>
      intro i co hinv6 hfu6 H locs ls hW hl
      obtain ⟨hi0, hi1, heco, -⟩ := hinv6
      refine lv_iload_n hX0 hB0 dX5_addRow_6 rfl (lv_at hl 0 rfl) ?_
      refine lv_aload_n hX0 hB0 dX5_addRow_7 rfl (lv_at hl 1 rfl) ?_
      refine z_get (Cn := RX5) (T := TX5) (N := 11) CX hW (v := .int (zI top)) ((va_up_ne _ _ (by omega)).trans hG.1) rfl (fun w h => List.mem_cons_of_mem _ (List.mem_append_left _ (List.mem_append_right _ h))) 6 (by decide) (List.mem_of_getElem? (i := 1) rfl) rfl rfl dX5_addRow_8 ?_
      refine z_icmp_gt (tgt := 71) CX dX5_addRow_11 (by decide) (by constructor <;> omega) (by constructor <;> omega) (fun c_11 => ?_) (fun c_11 => ?_)
      ·
        have hcl : co = zrl row col top := by rw [heco, show (i - 0).toNat = (top + 1 - 0).toNat by omega]; rfl
        have hlz : zcan p (zrl row col top) := zrl_can (by omega) hrow
        rw [hcl] at hW
        refine lv_aload_n hX0 hB0 dX5_addRow_71 rfl (lv_at hl 1 rfl) ?_
        refine z_get (Cn := RX5) (T := TX5) (N := 11) CX hW (v := .ref b) ((va_up_ne _ _ (by omega)).trans hG.1) rfl (fun w h => List.mem_cons_of_mem _ (List.mem_append_left _ (List.mem_append_right _ h))) 0 (by decide) (List.mem_of_getElem? (i := 5) rfl) rfl rfl dX5_addRow_72 ?_
        refine lv_aload_n hX0 hB0 dX5_addRow_75 rfl (lv_at hl 1 rfl) ?_
        refine z_get (Cn := RX5) (T := TX5) (N := 11) CX hW (v := .ref (r + 3)) ((va_up_ne _ _ (by omega)).trans hG.1) rfl (fun w h => List.mem_cons_of_mem _ (List.mem_append_left _ (List.mem_append_right _ h))) 3 (by decide) (List.mem_of_getElem? (i := 3) rfl) rfl rfl dX5_addRow_76 ?_
        refine z_calli hW (va_runV (C := RX8) (As := [.ref (r + 3)]) (rest := []) CX.fix (c_spadd l (f := va_up f (r + 3) (zA cI 94 (zrl row col top))) b wd wd p R K (r + 3) 94 (zrl row col top) (hS.same (fun q h1 h2 => ((va_up_ne _ _ (by omega)).trans rfl))) hR (va_up_self _ _ _) hlz (by omega) (by omega) (by omega) (by omega) (by omega)) (cwV 1 CX.fix.2.2.2.2 gX5_addRow_X8_add rfl rfl rfl (by decide +kernel) ⟨Nat.le_of_ble_eq_true rfl, Nat.le_of_ble_eq_true rfl⟩) (z_preV CX hW (r := (RX8, TX8, 5)) ((va_up_ne _ _ (by omega)).trans hS.1) rfl) rfl rfl hl.1 rfl (lv_room (Nat.le_of_ble_eq_true rfl)) dX5_addRow_79 ⟨Nat.zero_le _, Nat.zero_le _⟩) (fun zv gn H locs hok79 hW => ?_)
        obtain ⟨g79, eg79⟩ : ∃ q, q = gn := ⟨_, rfl⟩
        rw [← eg79] at hW hok79
        clear eg79
        obtain ⟨hz79, hfr79, hgt79, hsp79⟩ := hok79
        have ez : zv = zsp1 K R wd wd p (zrl row col top) := hz79
        rw [ez]
        clear ez
        have hb79 := zsp1_01 K R wd wd p (zrl row col top)
        rw [← hQ]
        exact z_iret (z := zsp1 K R wd wd p (zrl row col top)) CX hW (by exact ⟨rfl, fun q hq => ((hfr79 _ (by omega)).trans ((va_up_ne _ _ (by omega)).trans rfl)), hgt79, hsp79⟩) (zI_bool (by omega)) dX5_addRow_82
      ·
        refine lv_iconst (v := zI 0) hX0 hB0 dX5_addRow_14 rfl ?_
        refine lv_istore_n (lv' := [(2, .int (zI 0)), (1, .int (zI i)), (0, .ref r)]) hX0 hB0 dX5_addRow_15 rfl hl (by decide) rfl (fun ls hl => ?_)
        have hL16 : ∀ (fu : Nat) (j : Int) (ce : Nat → Int), (0 ≤ j ∧ (j ≤ top - i + 1 ∨ j = 0) ∧ ce = zfor (zrl_in row col i) 0 co (j - 0).toNat ∧ True) → (top - i + 1 - j).toNat < fu → ∀ (H : Heap) (locs : List Loc) (ls : Array Slot), zW D (zT cI cJ cZ cP cS cM) L (zQ L sz) st (va_up f (r + 3) (zA cI 94 ce)) st.heap H locs → lv_has ls 4 [(2, .int (zI j)), (1, .int (zI i)), (0, .ref r)] → W pg l en ({ frames := 3, cells := 0, slots := 0, locals := 72 } : Room) st mi ag bl mt cd H locs 0 0 Q (F0 mi 16 ls []) := by
          intro fu
          induction fu with
          | zero => intro j ce _ hfu; exact absurd hfu (Nat.not_lt_zero _)
          | succ fu ih16 =>
            intro j ce hinv16 hfu16 H locs ls hW hl
            obtain ⟨hj0, hj1, hece, -⟩ := hinv16
            refine lv_iload_n hX0 hB0 dX5_addRow_16 rfl (lv_at hl 0 rfl) ?_
            refine lv_aload_n hX0 hB0 dX5_addRow_17 rfl (lv_at hl 2 rfl) ?_
            refine z_get (Cn := RX5) (T := TX5) (N := 11) CX hW (v := .int (zI top)) ((va_up_ne _ _ (by omega)).trans hG.1) rfl (fun w h => List.mem_cons_of_mem _ (List.mem_append_left _ (List.mem_append_right _ h))) 6 (by decide) (List.mem_of_getElem? (i := 1) rfl) rfl rfl dX5_addRow_18 ?_
            refine lv_iload_n hX0 hB0 dX5_addRow_21 rfl (lv_at hl 1 rfl) ?_
            refine z_isub (z := top - i) CX dX5_addRow_22 rfl ?_
            refine z_icmp_gt (tgt := 65) CX dX5_addRow_23 (by decide) (by constructor <;> omega) (by constructor <;> omega) (fun c_23 => ?_) (fun c_23 => ?_)
            ·
              refine lv_iinc (v := zI (i + 1)) (lv' := [(1, .int (zI (i + 1))), (2, .int (zI j)), (0, .ref r)]) hX0 hB0 dX5_addRow_65 hl (k := 1) rfl (zI_add _ _) (by decide) rfl (fun ls hl => ?_)
              refine lv_goto (tgt := 6) hX0 hB0 dX5_addRow_68 (by decide) ?_
              exact ih6 (i + 1) ce ⟨by omega, by omega, by rw [zfor_s _ _ _ hi0, ← heco]; rw [hece]; show zfor _ 0 co _ = zfor _ 0 co _; congr 1; omega, trivial⟩ (by omega) H locs ls hW (lv_sub hl [0, 2] rfl)
            ·
              refine lv_aload_n hX0 hB0 dX5_addRow_26 rfl (lv_at hl 2 rfl) ?_
              refine z_get (Cn := RX5) (T := TX5) (N := 11) CX hW (v := .ref (r + 2)) ((va_up_ne _ _ (by omega)).trans hG.1) rfl (fun w h => List.mem_cons_of_mem _ (List.mem_append_left _ (List.mem_append_right _ h))) 2 (by decide) (List.mem_of_getElem? (i := 2) rfl) rfl rfl dX5_addRow_27 ?_
              refine lv_iload_n hX0 hB0 dX5_addRow_30 rfl (lv_at hl 1 rfl) ?_
              refine lv_bipush (v := zI 25) hX0 hB0 dX5_addRow_31 (by decide) ?_
              refine z_imul (z := i * 25) CX dX5_addRow_33 rfl ?_
              refine lv_iload_n hX0 hB0 dX5_addRow_34 rfl (lv_at hl 0 rfl) ?_
              refine z_iadd (z := (i * 25) + j) CX dX5_addRow_35 rfl ?_
              refine z_iald (z := col (((i * 25) + j).toNat)) CX hW ((va_up_ne _ _ (by omega)).trans hG.2.2.1) 0 rfl (by refine ⟨?_, ?_, ?_⟩ <;> omega) rfl dX5_addRow_36 ?_
              have hr1 := hcol (((i * 25) + j).toNat)
              refine lv_istore_n (lv' := [(3, .int (zI (col (((i * 25) + j).toNat)))), (2, .int (zI j)), (1, .int (zI i)), (0, .ref r)]) hX0 hB0 dX5_addRow_37 rfl hl (by decide) rfl (fun ls hl => ?_)
              refine lv_iload_n hX0 hB0 dX5_addRow_38 rfl (lv_at hl 0 rfl) ?_
              refine z_if_lt (tgt := 59) CX dX5_addRow_39 (by decide) (by constructor <;> omega) (fun c_39 => ?_) (fun c_39 => ?_)
              ·
                refine lv_iinc (v := zI (j + 1)) (lv' := [(2, .int (zI (j + 1))), (3, .int (zI (col (((i * 25) + j).toNat)))), (1, .int (zI i)), (0, .ref r)]) hX0 hB0 dX5_addRow_59 hl (k := 1) rfl (zI_add _ _) (by decide) rfl (fun ls hl => ?_)
                refine lv_goto (tgt := 16) hX0 hB0 dX5_addRow_62 (by decide) ?_
                exact ih16 (j + 1) ce ⟨by omega, by omega, by rw [zfor_s _ _ _ hj0, ← hece]; first | exact (if_pos (by omega)).symm | exact (if_neg (by omega)).symm, trivial⟩ (by omega) H locs ls hW (lv_sub hl [0, 2, 3] rfl)
              ·
                refine lv_aload_n hX0 hB0 dX5_addRow_42 rfl (lv_at hl 3 rfl) ?_
                refine z_get (Cn := RX5) (T := TX5) (N := 11) CX hW (v := .ref (r + 3)) ((va_up_ne _ _ (by omega)).trans hG.1) rfl (fun w h => List.mem_cons_of_mem _ (List.mem_append_left _ (List.mem_append_right _ h))) 3 (by decide) (List.mem_of_getElem? (i := 3) rfl) rfl rfl dX5_addRow_43 ?_
                refine lv_iload_n hX0 hB0 dX5_addRow_46 rfl (lv_at hl 0 rfl) ?_
                refine lv_aload_n hX0 hB0 dX5_addRow_47 rfl (lv_at hl 3 rfl) ?_
                refine z_get (Cn := RX5) (T := TX5) (N := 11) CX hW (v := .ref (r + 1)) ((va_up_ne _ _ (by omega)).trans hG.1) rfl (fun w h => List.mem_cons_of_mem _ (List.mem_append_left _ (List.mem_append_right _ h))) 1 (by decide) (List.mem_of_getElem? (i := 4) rfl) rfl rfl dX5_addRow_48 ?_
                refine lv_iload_n hX0 hB0 dX5_addRow_51 rfl (lv_at hl 2 rfl) ?_
                refine lv_bipush (v := zI 25) hX0 hB0 dX5_addRow_52 (by decide) ?_
                refine z_imul (z := i * 25) CX dX5_addRow_54 rfl ?_
                refine lv_iload_n hX0 hB0 dX5_addRow_55 rfl (lv_at hl 1 rfl) ?_
                refine z_iadd (z := (i * 25) + j) CX dX5_addRow_56 rfl ?_
                refine z_iald (z := row (((i * 25) + j).toNat)) CX hW ((va_up_ne _ _ (by omega)).trans hG.2.1) 0 rfl (by refine ⟨?_, ?_, ?_⟩ <;> omega) rfl dX5_addRow_57 ?_
                have hr2 := hrow (((i * 25) + j).toNat)
                refine z_iast CX hW (va_up_self _ _ _) 0 rfl (by have hcq := hcol (i * 25 + j).toNat; refine ⟨?_, ?_, ?_⟩ <;> omega) (g := va_up f (r + 3) (zA cI 94 (zup ce ((col (((i * 25) + j).toNat)).toNat) (row (((i * 25) + j).toNat))))) va_up_up dX5_addRow_58 (fun H locs hW => ?_)
                refine lv_iinc (v := zI (j + 1)) (lv' := [(2, .int (zI (j + 1))), (3, .int (zI (col (((i * 25) + j).toNat)))), (1, .int (zI i)), (0, .ref r)]) hX0 hB0 dX5_addRow_59 hl (k := 1) rfl (zI_add _ _) (by decide) rfl (fun ls hl => ?_)
                refine lv_goto (tgt := 16) hX0 hB0 dX5_addRow_62 (by decide) ?_
                exact ih16 (j + 1) (zup ce ((col (((i * 25) + j).toNat)).toNat) (row (((i * 25) + j).toNat))) ⟨by omega, by omega, by rw [zfor_s _ _ _ hj0, ← hece]; first | exact (if_pos (by omega)).symm | exact (if_neg (by omega)).symm, trivial⟩ (by omega) H locs ls hW (lv_sub hl [0, 2, 3] rfl)
        exact hL16 _ 0 co ⟨by omega, Or.inr rfl, (zfor_0 _ _ _).symm, trivial⟩ (Nat.lt_succ_self _) H locs ls hW (lv_sub hl [0, 1, 2] rfl)
  exact hL6 _ 0 ((fun _ => 0)) ⟨by omega, Or.inr rfl, (zfor_0 _ _ _).symm, trivial⟩ (Nat.lt_succ_self _) H locs ls hW (lv_sub hl [0, 1] rfl)
set_option maxRecDepth 100000 in
set_option maxHeartbeats 4000000 in
/-- Ring.addMultiples -/
theorem c_addMultiples (l : Launch) {D : va_G} {cI cJ cZ cP cS cM : ClassId} {L : List Nat} {sz : Nat} {f : Nat → va_E} (r b v : Nat) (p top lc lx ly wd : Int) (row col ln : Nat → Int) (vh : Nat) (d : Nat → Int) (h0 h : Nat) (e : Nat → Int) (R : Nat → Nat → Int) (K : Nat → Int) (m : Int) (hG : zRg cI f r b v p top lc lx ly wd row col ln) (hp : 2 ≤ p ∧ p ≤ 31) (htop : 0 ≤ top ∧ top ≤ 24) (hv0 : f v = .inr (2, [.ref vh])) (hv1 : f vh = zA cI 25 d) (hd : zcan 31 d) (hvr : v < r ∨ r + 6 ≤ v) (hvhr : vh < r ∨ r + 6 ≤ vh) (hlx : 0 ≤ lx) (hly : 0 ≤ ly) (hlxy : lx + ly ≤ 4) (hlc : 0 ≤ lc ∧ lc ≤ 1) (hf0 : f h0 = .inr (2, [.ref h])) (hf1 : f h = zA cI 25 e) (he : zcan 31 e) (hh0 : h0 < r ∨ r + 6 ≤ h0) (hh : h < r ∨ r + 6 ≤ h) (hS : zSpace cI cZ cM f b wd wd p R K) (hR : ∀ i, zcan 31 (R i)) (hwd : 0 ≤ wd ∧ wd ≤ 94) (hbr : b + 97 ≤ r ∨ r + 6 ≤ b) (hcol : ∀ k, -1 ≤ col k ∧ col k ≤ 93) (hvb : v < b ∨ b + 97 ≤ v) (hvhb : vh < b ∨ b + 97 ≤ vh) (hhb0 : h0 < b ∨ b + 97 ≤ h0) (hhb : h < b ∨ b + 97 ≤ h) (hm : -1 ≤ m ∧ m ≤ 24) : zMi l yX5_addMultiples wsX5_addMultiples 4 95 D (zT cI cJ cZ cP cS cM) L sz f [.ref r, .ref h0, .int (zI m)] (fun z g => z = (zam e d col lx ly p top lc wd m (R, K, ln, row, 0)).2.2.2.2 ∧ 0 ≤ z ∧ z ≤ 1000 ∧ (∀ q, ¬ (b ≤ q ∧ q < b + 97) ∧ q ≠ r + 3 ∧ q ≠ r + 1 → g q = f q) ∧ zSpace cI cZ cM g b wd wd p (zam e d col lx ly p top lc wd m (R, K, ln, row, 0)).1 (zam e d col lx ly p top lc wd m (R, K, ln, row, 0)).2.1 ∧ g (r + 3) = zA cI 94 (zam e d col lx ly p top lc wd m (R, K, ln, row, 0)).2.2.1 ∧ g (r + 1) = zA cI 625 (zam e d col lx ly p top lc wd m (R, K, ln, row, 0)).2.2.2.1 ∧ (∀ i, zcan 31 ((zam e d col lx ly p top lc wd m (R, K, ln, row, 0)).1 i))) := by
  refine zWalk.met (nL := 6) (ret := (some .int)) (cc := cX5_addMultiples) (by decide) rfl (Nat.le_of_ble_eq_true rfl) ?_
  intro pg en st mi ag bl mt cd ls CX hW hl
  have CX : zC pg st mi ag mt cd cX5_addMultiples 6 (some .int) RX5 wsX5_addMultiples := CX
  generalize hQ : MQ bl _ ag st 0 0 _ = Q
  have hX0 := CX.1
  have hB0 := CX.2.1
  have hl : lv_has ls 6 [(0, .ref r), (1, .ref h0), (2, .int (zI m))] := hl
  obtain ⟨H, eH⟩ : ∃ H, H = st.heap := ⟨_, rfl⟩
  obtain ⟨locs, eL⟩ : ∃ L : List Loc, L = [] := ⟨_, rfl⟩
  have hW : zW D (zT cI cJ cZ cP cS cM) L (zQ L sz) st f st.heap H locs := by rw [eH, eL]; exact hW
  suffices hgo : W pg l en ({ frames := 4, cells := 0, slots := 0, locals := 95 } : Room) st mi ag bl mt cd H locs 0 0 Q (F0 mi 0 ls []) by rw [eH, eL] at hgo; exact hgo
  clear eH eL
  refine lv_iconst (v := zI 0) hX0 hB0 dX5_addMultiples_0 rfl ?_
  refine lv_istore_n (lv' := [(3, .int (zI 0)), (0, .ref r), (1, .ref h0), (2, .int (zI m))]) hX0 hB0 dX5_addMultiples_1 rfl hl (by decide) rfl (fun ls hl => ?_)
  refine lv_iconst (v := zI 0) hX0 hB0 dX5_addMultiples_2 rfl ?_
  refine lv_istore (lv' := [(4, .int (zI 0)), (3, .int (zI 0)), (0, .ref r), (1, .ref h0), (2, .int (zI m))]) hX0 hB0 dX5_addMultiples_3 hl (by decide) rfl (fun ls hl => ?_)
  have hL5 : ∀ (fu : Nat) (i : Int) (g : Nat → va_E) (R1 : Nat → Nat → Int) (K1 : Nat → Int) (l1 : Nat → Int) (w1 : Nat → Int) (sm : Int), ((∀ q, ¬ (b ≤ q ∧ q < b + 97) ∧ q ≠ r + 3 ∧ q ≠ r + 1 → g q = f q) ∧ zSpace cI cZ cM g b wd wd p R1 K1 ∧ g (r + 3) = zA cI 94 l1 ∧ g (r + 1) = zA cI 625 w1 ∧ (∀ i, zcan 31 (R1 i)) ∧ 0 ≤ i ∧ (i ≤ m + 1 ∨ i = 0) ∧ 0 ≤ sm ∧ sm ≤ 30 * i ∧ (R1, K1, l1, w1, sm) = zfor (zam_out e d col lx ly p top lc wd m) 0 (R, K, ln, row, 0) (i - 0).toNat) → (m + 1 - i).toNat < fu → ∀ (H : Heap) (locs : List Loc) (ls : Array Slot), zW D (zT cI cJ cZ cP cS cM) L (zQ L sz) st g st.heap H locs → lv_has ls 6 [(4, .int (zI i)), (3, .int (zI sm)), (0, .ref r), (1, .ref h0), (2, .int (zI m))] → W pg l en ({ frames := 4, cells := 0, slots := 0, locals := 95 } : Room) st mi ag bl mt cd H locs 0 0 Q (F0 mi 5 ls []) := by
    intro fu
    induction fu with
    | zero => intro i g R1 K1 l1 w1 sm _ hfu; exact absurd hfu (Nat.not_lt_zero _)
    | succ fu ih5 =>
      intro i g R1 K1 l1 w1 sm hinv5 hfu5 H locs ls hW hl
      obtain ⟨hfr, hsp, hln, hrw, hR1, hi0, hi1, hs0, hs1, hst⟩ := hinv5
      refine lv_iload hX0 hB0 dX5_addMultiples_5 (lv_at hl 0 rfl) ?_
      refine lv_iload_n hX0 hB0 dX5_addMultiples_7 rfl (lv_at hl 4 rfl) ?_
      refine z_icmp_gt (tgt := 96) CX dX5_addMultiples_8 (by decide) (by constructor <;> omega) (by constructor <;> omega) (fun c_8 => ?_) (fun c_8 => ?_)
      ·
        refine lv_iload_n hX0 hB0 dX5_addMultiples_96 rfl (lv_at hl 1 rfl) ?_
        rw [← hQ]
        refine z_iret (z := sm) CX hW ?_ rfl dX5_addMultiples_97
        have hf : (R1, K1, l1, w1, sm) = zam e d col lx ly p top lc wd m (R, K, ln, row, 0) := by rw [hst]; unfold zam; congr 1; omega
        rw [← hf]
        exact ⟨rfl, by omega, by omega, hfr, hsp, hln, hrw, hR1⟩
      ·
        obtain ⟨S0, hS0⟩ : ∃ q : zRt, q = (R1, K1, l1, w1, sm) := ⟨_, rfl⟩
        rw [← hS0] at hst
        refine lv_iconst (v := zI 0) hX0 hB0 dX5_addMultiples_11 rfl ?_
        refine lv_istore (lv' := [(5, .int (zI 0)), (4, .int (zI i)), (3, .int (zI sm)), (0, .ref r), (1, .ref h0), (2, .int (zI m))]) hX0 hB0 dX5_addMultiples_12 hl (by decide) rfl (fun ls hl => ?_)
        have hL14 : ∀ (fu : Nat) (j : Int) (g : Nat → va_E) (R1 : Nat → Nat → Int) (K1 : Nat → Int) (l1 : Nat → Int) (w1 : Nat → Int) (sm : Int), ((∀ q, ¬ (b ≤ q ∧ q < b + 97) ∧ q ≠ r + 3 ∧ q ≠ r + 1 → g q = f q) ∧ zSpace cI cZ cM g b wd wd p R1 K1 ∧ g (r + 3) = zA cI 94 l1 ∧ g (r + 1) = zA cI 625 w1 ∧ (∀ i, zcan 31 (R1 i)) ∧ 0 ≤ j ∧ j ≤ m - i + 1 ∧ 0 ≤ sm ∧ sm ≤ 30 * i + j ∧ (R1, K1, l1, w1, sm) = zfor (zam_in e d col lx ly p top lc wd i) 0 S0 (j - 0).toNat) → (m - i + 1 - j).toNat < fu → ∀ (H : Heap) (locs : List Loc) (ls : Array Slot), zW D (zT cI cJ cZ cP cS cM) L (zQ L sz) st g st.heap H locs → lv_has ls 6 [(5, .int (zI j)), (4, .int (zI i)), (3, .int (zI sm)), (0, .ref r), (1, .ref h0), (2, .int (zI m))] → W pg l en ({ frames := 4, cells := 0, slots := 0, locals := 95 } : Room) st mi ag bl mt cd H locs 0 0 Q (F0 mi 14 ls []) := by
          intro fu
          induction fu with
          | zero => intro j g R1 K1 l1 w1 sm _ hfu; exact absurd hfu (Nat.not_lt_zero _)
          | succ fu ih14 =>
            intro j g R1 K1 l1 w1 sm hinv14 hfu14 H locs ls hW hl
            obtain ⟨hfr, hsp, hln, hrw, hR1, hj0, hj1, hs0, hs1, hsj⟩ := hinv14
            refine lv_iload hX0 hB0 dX5_addMultiples_14 (lv_at hl 0 rfl) ?_
            refine lv_iload_n hX0 hB0 dX5_addMultiples_16 rfl (lv_at hl 5 rfl) ?_
            refine lv_iload hX0 hB0 dX5_addMultiples_17 (lv_at hl 1 rfl) ?_
            refine z_isub (z := m - i) CX dX5_addMultiples_19 rfl ?_
            refine z_icmp_gt (tgt := 90) CX dX5_addMultiples_20 (by decide) (by constructor <;> omega) (by constructor <;> omega) (fun c_20 => ?_) (fun c_20 => ?_)
            ·
              refine lv_iinc (v := zI (i + 1)) (lv' := [(4, .int (zI (i + 1))), (5, .int (zI j)), (3, .int (zI sm)), (0, .ref r), (1, .ref h0), (2, .int (zI m))]) hX0 hB0 dX5_addMultiples_90 hl (k := 1) rfl (zI_add _ _) (by decide) rfl (fun ls hl => ?_)
              refine lv_goto (tgt := 5) hX0 hB0 dX5_addMultiples_93 (by decide) ?_
              exact ih5 (i + 1) g R1 K1 l1 w1 sm ⟨hfr, hsp, hln, hrw, hR1, by omega, by omega, by omega, by omega, by rw [zfor_s _ _ _ hi0, ← hst, hsj]; show zfor _ 0 _ _ = zfor _ 0 _ _; rw [show (j - 0).toNat = (m - i + 1 - 0).toNat by omega]⟩ (by omega) H locs ls hW (lv_sub hl [0, 2, 3, 4, 5] rfl)
            ·
              refine lv_iload hX0 hB0 dX5_addMultiples_23 (lv_at hl 1 rfl) ?_
              refine lv_bipush (v := zI 24) hX0 hB0 dX5_addMultiples_25 (by decide) ?_
              refine z_icmp_gt (tgt := 90) CX dX5_addMultiples_27 (by decide) (by constructor <;> omega) (by constructor <;> omega) (fun c_27 => ?_) (fun c_27 => ?_)
              ·
                omega
              ·
                refine lv_iload hX0 hB0 dX5_addMultiples_30 (lv_at hl 0 rfl) ?_
                refine lv_bipush (v := zI 24) hX0 hB0 dX5_addMultiples_32 (by decide) ?_
                refine lv_iload hX0 hB0 dX5_addMultiples_34 (lv_at hl 1 rfl) ?_
                refine z_isub (z := 24 - i) CX dX5_addMultiples_36 rfl ?_
                refine z_icmp_gt (tgt := 90) CX dX5_addMultiples_37 (by decide) (by constructor <;> omega) (by constructor <;> omega) (fun c_37 => ?_) (fun c_37 => ?_)
                ·
                  omega
                ·
                  refine lv_aload_n hX0 hB0 dX5_addMultiples_40 rfl (lv_at hl 3 rfl) ?_
                  refine z_get (Cn := RX5) (T := TX5) (N := 11) CX hW (v := .ref (r + 2)) ((hfr _ (by omega)).trans hG.1) rfl (fun w h => List.mem_cons_of_mem _ (List.mem_append_left _ (List.mem_append_left _ (List.mem_append_right _ h)))) 2 (by decide) (List.mem_of_getElem? (i := 1) rfl) rfl rfl dX5_addMultiples_41 ?_
                  refine lv_iload hX0 hB0 dX5_addMultiples_44 (lv_at hl 1 rfl) ?_
                  refine lv_bipush (v := zI 25) hX0 hB0 dX5_addMultiples_46 (by decide) ?_
                  refine z_imul (z := i * 25) CX dX5_addMultiples_48 rfl ?_
                  refine lv_iload hX0 hB0 dX5_addMultiples_49 (lv_at hl 0 rfl) ?_
                  refine z_iadd (z := (i * 25) + j) CX dX5_addMultiples_51 rfl ?_
                  refine z_iald (z := col (((i * 25) + j).toNat)) CX hW ((hfr _ (by omega)).trans hG.2.2.1) 0 rfl (by refine ⟨?_, ?_, ?_⟩ <;> omega) rfl dX5_addMultiples_52 ?_
                  have hr1 := hcol (((i * 25) + j).toNat)
                  refine z_if_lt (tgt := 84) CX dX5_addMultiples_53 (by decide) (by constructor <;> omega) (fun c_53 => ?_) (fun c_53 => ?_)
                  ·
                    refine lv_iinc (v := zI (j + 1)) (lv' := [(5, .int (zI (j + 1))), (4, .int (zI i)), (3, .int (zI sm)), (0, .ref r), (1, .ref h0), (2, .int (zI m))]) hX0 hB0 dX5_addMultiples_84 hl (k := 0) rfl (zI_add _ _) (by decide) rfl (fun ls hl => ?_)
                    refine lv_goto (tgt := 14) hX0 hB0 dX5_addMultiples_87 (by decide) ?_
                    exact ih14 (j + 1) g R1 K1 l1 w1 sm ⟨hfr, hsp, hln, hrw, hR1, by omega, by omega, by omega, by omega, by rw [zfor_s _ _ _ hj0, ← hsj]; exact (if_neg (by omega)).symm⟩ (by omega) H locs ls hW (lv_sub hl [0, 1, 2, 3, 4, 5] rfl)
                  ·
                    refine lv_aload_n hX0 hB0 dX5_addMultiples_56 rfl (lv_at hl 3 rfl) ?_
                    refine lv_aload_n hX0 hB0 dX5_addMultiples_57 rfl (lv_at hl 4 rfl) ?_
                    refine lv_iload hX0 hB0 dX5_addMultiples_58 (lv_at hl 1 rfl) ?_
                    refine lv_iload hX0 hB0 dX5_addMultiples_60 (lv_at hl 0 rfl) ?_
                    refine z_callv hW (va_runV (C := RX5) (As := [.ref h0, .int (zI i), .int (zI j)]) (rest := []) CX.fix (c_setRow l (f := g) r b v p top lc lx ly wd w1 col l1 h0 h e i j ⟨((hfr _ (by omega)).trans hG.1), hrw, ((hfr _ (by omega)).trans hG.2.2.1), hln⟩ (by omega) (by omega) ((hfr _ (by omega)).trans hf0) ((hfr _ (by omega)).trans hf1) (by first | assumption | exact zcan_le (by assumption) (by omega)) (by omega) (by omega) (by omega) (by omega)) (cwV 3 CX.fix.2.2.2.2 gX5_addMultiples_X5_setRow rfl rfl rfl (by decide +kernel) ⟨Nat.le_of_ble_eq_true rfl, Nat.le_of_ble_eq_true rfl⟩) (z_preV CX hW (r := (RX5, TX5, 11)) ((hfr _ (by omega)).trans hG.1) rfl) rfl rfl hl.1 rfl (lv_room (Nat.le_of_ble_eq_true rfl)) dX5_addMultiples_62 ⟨Nat.zero_le _, Nat.zero_le _⟩) (fun gn H locs hok62 hW => ?_)
                    have eg : gn = va_up g (r + 1) (zA cI 625 (zatr (fun _ => 0) e i j 1 p top)) := hok62
                    rw [eg] at hW
                    clear eg
                    refine lv_aload_n hX0 hB0 dX5_addMultiples_65 rfl (lv_at hl 3 rfl) ?_
                    refine z_callv hW (va_runV (C := RX5) (As := []) (rest := []) CX.fix (c_reduceRow l (f := va_up g (r + 1) (zA cI 625 (zatr (fun _ => 0) e i j 1 p top))) r b v p top lc lx ly wd (zatr (fun _ => 0) e i j 1 p top) col l1 vh d ⟨((va_up_ne _ _ (by omega)).trans ((hfr _ (by omega)).trans hG.1)), (va_up_self _ _ _), ((va_up_ne _ _ (by omega)).trans ((hfr _ (by omega)).trans hG.2.2.1)), ((va_up_ne _ _ (by omega)).trans hln)⟩ (by omega) (by omega) ((va_up_ne _ _ (by omega)).trans ((hfr _ (by omega)).trans hv0)) ((va_up_ne _ _ (by omega)).trans ((hfr _ (by omega)).trans hv1)) (by first | assumption | exact zcan_le (by assumption) (by omega)) (by omega) (by omega) (by omega) (by omega) (by omega) (by omega) (by exact zatr_can (by omega) (by omega) (fun _ => by show (0 : Int) ≤ 0 ∧ (0 : Int) < 31; omega))) (cwV 0 CX.fix.2.2.2.2 gX5_addMultiples_X5_reduceRow rfl rfl rfl (by decide +kernel) ⟨Nat.le_of_ble_eq_true rfl, Nat.le_of_ble_eq_true rfl⟩) (z_preV CX hW (r := (RX5, TX5, 11)) ((va_up_ne _ _ (by omega)).trans ((hfr _ (by omega)).trans hG.1)) rfl) rfl rfl hl.1 rfl (lv_room (Nat.le_of_ble_eq_true rfl)) dX5_addMultiples_66 ⟨Nat.zero_le _, Nat.zero_le _⟩) (fun gn H locs hok66 hW => ?_)
                    have eg : gn = va_up g (r + 1) (zA cI 625 (zredr (zatr (fun _ => 0) e i j 1 p top) d lx ly p top lc)) := (hok66).trans va_up_up
                    rw [eg] at hW
                    clear eg
                    have hrwc : zcan p (zredr (zatr (fun _ => 0) e i j 1 p top) d lx ly p top lc) := zredr_can (by omega) (by omega) (zatr_can (by omega) (by omega) (fun _ => by show (0 : Int) ≤ 0 ∧ (0 : Int) < p; omega))
                    refine lv_iload_n hX0 hB0 dX5_addMultiples_69 rfl (lv_at hl 2 rfl) ?_
                    refine lv_aload_n hX0 hB0 dX5_addMultiples_70 rfl (lv_at hl 3 rfl) ?_
                    refine z_calli hW (va_runV (C := RX5) (As := []) (rest := [.int (zI sm)]) CX.fix (c_addRow l (f := va_up g (r + 1) (zA cI 625 (zredr (zatr (fun _ => 0) e i j 1 p top) d lx ly p top lc))) r b v p top lc lx ly wd (zredr (zatr (fun _ => 0) e i j 1 p top) d lx ly p top lc) col l1 R1 K1 ⟨((va_up_ne _ _ (by omega)).trans ((hfr _ (by omega)).trans hG.1)), (va_up_self _ _ _), ((va_up_ne _ _ (by omega)).trans ((hfr _ (by omega)).trans hG.2.2.1)), ((va_up_ne _ _ (by omega)).trans hln)⟩ (by omega) (by omega) (hsp.same (fun q h1 h2 => ((va_up_ne _ _ (by omega)).trans rfl))) hR1 (by omega) (by omega) hcol hrwc) (cwV 0 CX.fix.2.2.2.2 gX5_addMultiples_X5_addRow rfl rfl rfl (by decide +kernel) ⟨Nat.le_of_ble_eq_true rfl, Nat.le_of_ble_eq_true rfl⟩) (z_preV CX hW (r := (RX5, TX5, 11)) ((va_up_ne _ _ (by omega)).trans ((hfr _ (by omega)).trans hG.1)) rfl) rfl rfl hl.1 rfl (lv_room (Nat.le_of_ble_eq_true rfl)) dX5_addMultiples_71 ⟨Nat.zero_le _, Nat.zero_le _⟩) (fun zv gn H locs hok71 hW => ?_)
                    obtain ⟨g71, eg71⟩ : ∃ q, q = gn := ⟨_, rfl⟩
                    rw [← eg71] at hW hok71
                    clear eg71
                    obtain ⟨hz71, hfr71, hgt71, hsp71⟩ := hok71
                    have ez : zv = zsp1 K1 R1 wd wd p (zrl (zredr (zatr (fun _ => 0) e i j 1 p top) d lx ly p top lc) col top) := hz71
                    rw [ez]
                    clear ez
                    have hb71 := zsp1_01 K1 R1 wd wd p (zrl (zredr (zatr (fun _ => 0) e i j 1 p top) d lx ly p top lc) col top)
                    refine z_if_eq (tgt := 81) CX dX5_addMultiples_74 (by decide) (by constructor <;> omega) (fun c_74 => ?_) (fun c_74 => ?_)
                    ·
                      refine lv_iconst (v := zI 0) hX0 hB0 dX5_addMultiples_81 rfl ?_
                      refine z_iadd (z := sm + 0) CX dX5_addMultiples_82 rfl ?_
                      refine lv_istore_n (lv' := [(3, .int (zI (sm + 0))), (5, .int (zI j)), (4, .int (zI i)), (0, .ref r), (1, .ref h0), (2, .int (zI m))]) hX0 hB0 dX5_addMultiples_83 rfl hl (by decide) rfl (fun ls hl => ?_)
                      refine lv_iinc (v := zI (j + 1)) (lv' := [(5, .int (zI (j + 1))), (3, .int (zI (sm + 0))), (4, .int (zI i)), (0, .ref r), (1, .ref h0), (2, .int (zI m))]) hX0 hB0 dX5_addMultiples_84 hl (k := 1) rfl (zI_add _ _) (by decide) rfl (fun ls hl => ?_)
                      refine lv_goto (tgt := 14) hX0 hB0 dX5_addMultiples_87 (by decide) ?_
                      exact ih14 (j + 1) g71 ((zspR K1 R1 wd wd p (zrl (zredr (zatr (fun _ => 0) e i j 1 p top) d lx ly p top lc) col top))) ((zspK K1 R1 wd wd p (zrl (zredr (zatr (fun _ => 0) e i j 1 p top) d lx ly p top lc) col top))) ((zspan K1 R1 wd wd p (zrl (zredr (zatr (fun _ => 0) e i j 1 p top) d lx ly p top lc) col top)).2) (zredr (zatr (fun _ => 0) e i j 1 p top) d lx ly p top lc) (sm + 0) ⟨fun q hq => ((hfr71 _ (by omega)).trans ((va_up_ne _ _ (by omega)).trans ((hfr _ (by omega)).trans rfl))), hsp71, hgt71, ((hfr71 _ (by omega)).trans (va_up_self _ _ _)), zspR_can (by omega) (by omega) hR1, by omega, by omega, by omega, by omega, by rw [zfor_s _ _ _ hj0, ← hsj]; refine Eq.trans ?_ (if_pos (by omega)).symm; show _ = (_, _, _, _, sm + zsp1 _ _ _ _ _ _); rw [show zsp1 K1 R1 wd wd p (zrl (zrow e d lx ly p top lc i j) col top) = 0 from (by first | exact c_74 | exact hb71.resolve_left c_74)]; rfl⟩ (by omega) H locs ls hW (lv_sub hl [0, 2, 1, 3, 4, 5] rfl)
                    ·
                      refine lv_iconst (v := zI 1) hX0 hB0 dX5_addMultiples_77 rfl ?_
                      refine lv_goto (tgt := 82) hX0 hB0 dX5_addMultiples_78 (by decide) ?_
                      refine z_iadd (z := sm + 1) CX dX5_addMultiples_82 rfl ?_
                      refine lv_istore_n (lv' := [(3, .int (zI (sm + 1))), (5, .int (zI j)), (4, .int (zI i)), (0, .ref r), (1, .ref h0), (2, .int (zI m))]) hX0 hB0 dX5_addMultiples_83 rfl hl (by decide) rfl (fun ls hl => ?_)
                      refine lv_iinc (v := zI (j + 1)) (lv' := [(5, .int (zI (j + 1))), (3, .int (zI (sm + 1))), (4, .int (zI i)), (0, .ref r), (1, .ref h0), (2, .int (zI m))]) hX0 hB0 dX5_addMultiples_84 hl (k := 1) rfl (zI_add _ _) (by decide) rfl (fun ls hl => ?_)
                      refine lv_goto (tgt := 14) hX0 hB0 dX5_addMultiples_87 (by decide) ?_
                      exact ih14 (j + 1) g71 ((zspR K1 R1 wd wd p (zrl (zredr (zatr (fun _ => 0) e i j 1 p top) d lx ly p top lc) col top))) ((zspK K1 R1 wd wd p (zrl (zredr (zatr (fun _ => 0) e i j 1 p top) d lx ly p top lc) col top))) ((zspan K1 R1 wd wd p (zrl (zredr (zatr (fun _ => 0) e i j 1 p top) d lx ly p top lc) col top)).2) (zredr (zatr (fun _ => 0) e i j 1 p top) d lx ly p top lc) (sm + 1) ⟨fun q hq => ((hfr71 _ (by omega)).trans ((va_up_ne _ _ (by omega)).trans ((hfr _ (by omega)).trans rfl))), hsp71, hgt71, ((hfr71 _ (by omega)).trans (va_up_self _ _ _)), zspR_can (by omega) (by omega) hR1, by omega, by omega, by omega, by omega, by rw [zfor_s _ _ _ hj0, ← hsj]; refine Eq.trans ?_ (if_pos (by omega)).symm; show _ = (_, _, _, _, sm + zsp1 _ _ _ _ _ _); rw [show zsp1 K1 R1 wd wd p (zrl (zrow e d lx ly p top lc i j) col top) = 1 from (by first | exact c_74 | exact hb71.resolve_left c_74)]; rfl⟩ (by omega) H locs ls hW (lv_sub hl [0, 2, 1, 3, 4, 5] rfl)
        exact hL14 _ 0 g R1 K1 l1 w1 sm ⟨hfr, hsp, hln, hrw, hR1, by omega, by omega, by omega, by omega, by rw [hS0]; exact (zfor_0 _ _ _).symm⟩ (Nat.lt_succ_self _) H locs ls hW (lv_sub hl [0, 1, 2, 3, 4, 5] rfl)
  exact hL5 _ 0 f R K ln row 0 ⟨fun _ _ => rfl, hS, hG.2.2.2, hG.2.1, hR, by omega, by omega, by omega, by omega, (zfor_0 _ _ _).symm⟩ (Nat.lt_succ_self _) H locs ls hW (lv_sub hl [0, 1, 2, 3, 4] rfl)
end ZRi
