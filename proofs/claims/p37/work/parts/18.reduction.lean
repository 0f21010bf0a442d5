section ZRe
/-- the greatest i of a pure TERM of a grid; -1 -/
def zgrtF (F : Nat → Int) : Nat → Int
  | 0 => -1
  | k + 1 => if F (k * 17) ≠ 0 then (k : Int) else zgrtF F k
def zgrt (F : Nat → Int) : Int := zgrtF F (16 + 1 : Int).toNat
theorem zgrtF_s (F : Nat → Int) {i : Int} (h : 0 ≤ i) : zgrtF F (i + 1).toNat = if F (i * 17).toNat ≠ 0 then i else zgrtF F (i - 1 + 1).toNat := by
  rw [show (i + 1).toNat = i.toNat + 1 by omega]
  show (if F (i.toNat * 17) ≠ 0 then ((i.toNat : Nat) : Int) else zgrtF F i.toNat) = _
  rw [show ((i.toNat : Nat) : Int) = i by omega, show (i - 1 + 1).toNat = i.toNat by omega, show i.toNat * 17 = (i * 17).toNat by omega]
theorem zgrtF_rng (F : Nat → Int) : ∀ k : Nat, -1 ≤ zgrtF F k ∧ zgrtF F k ≤ (k : Int) - 1
  | 0 => by simp only [zgrtF]; omega
  | k + 1 => by
    have := zgrtF_rng F k
    simp only [zgrtF]
    split <;> omega
theorem zgrt_rng (F : Nat → Int) : -1 ≤ zgrt F ∧ zgrt F ≤ 16 := zgrtF_rng F 17
/-- the least -/
def zlstF (F : Nat → Int) : Nat → Int → Int
  | 0, _ => -1
  | n + 1, i => if F (i * 17).toNat ≠ 0 then i else zlstF F n (i + 1)
def zlst (F : Nat → Int) : Int := zlstF F (17 - 0 : Int).toNat 0
theorem zlstF_s (F : Nat → Int) {i : Int} (h : i < 17) : zlstF F (17 - i).toNat i = if F (i * 17).toNat ≠ 0 then i else zlstF F (17 - (i + 1)).toNat (i + 1) := by
  rw [show (17 - i).toNat = (17 - (i + 1)).toNat + 1 by omega]
  rfl
theorem zlstF_rng (F : Nat → Int) : ∀ (n : Nat) (i : Int), 0 ≤ i → i + n ≤ 17 → -1 ≤ zlstF F n i ∧ zlstF F n i ≤ 16
  | 0, i, _, _ => by simp only [zlstF]; omega
  | n + 1, i, h1, h2 => by
    simp only [zlstF]
    split
    · omega
    · exact zlstF_rng F n (i + 1) (by omega) (by omega)
theorem zlst_rng (F : Nat → Int) : -1 ≤ zlst F ∧ zlst F ≤ 16 := zlstF_rng F _ 0 (by omega) (by decide)
/-- a grid out of a POLYNOMIAL -/
def zld_in (d : Nat → Int) (i : Int) : Int → (Nat → Int) → (Nat → Int) := fun j c => zup c (i * 17 + j).toNat (zat d i j)
def zld_out (d : Nat → Int) : Int → (Nat → Int) → (Nat → Int) := fun i c => zfor (zld_in d i) 0 c (4 - i + 1 - 0).toNat
def zld (d : Nat → Int) : Nat → Int := zfor (zld_out d) 0 (fun _ => 0) (5 - 0 : Int).toNat
theorem zld_can {p : Int} {d : Nat → Int} (hp : 0 < p) (h : zcan p d) : zcan p (zld d) :=
  zfor_inv (zcan p) (fun _ => by show (0 : Int) ≤ 0 ∧ (0 : Int) < p; omega) (fun i x hx => zfor_inv (zcan p) hx (fun j y hy => zcan_up hy _ (zat_can hp h _ _)) _) _
/-- which RULE fits -/
def zwhich (F G : Nat → Int) : Int := if F 0 ≠ 0 ∨ G 0 ≠ 0 then 0 else if zgrt F < 0 then 1 else if zgrt G < 0 ∨ zgrt G < zgrt F then 2 else 3
theorem zwhich_rng (F G : Nat → Int) : 0 ≤ zwhich F G ∧ zwhich F G ≤ 3 := by
  unfold zwhich
  split
  · omega
  · split
    · omega
    · split <;> omega
/-- SPLIT -/
def zspl_in (i : Int) : Int → (Nat → Int) → (Nat → Int) := fun j c => zup c (i * 17 + j).toNat (c (i * 17 + j + 1).toNat)
def zspl_out : Int → (Nat → Int) → (Nat → Int) := fun i c => zup (zfor (zspl_in i) 0 c (16 - 0 : Int).toNat) (i * 17 + 16).toNat 0
def zspl (F : Nat → Int) : Nat → Int := zfor zspl_out 0 F (17 - 0 : Int).toNat
theorem zspl_can {p : Int} {F : Nat → Int} (hp : 0 < p) (h : zcan p F) : zcan p (zspl F) :=
  zfor_inv (zcan p) h (fun i x hx => zcan_up (zfor_inv (zcan p) hx (fun j y hy => zcan_up hy _ (hy _)) _) _ (by omega)) _
/-- CUT -/
def zcut_in (F : Nat → Int) (p rt mn i : Int) : Int → (Nat → Int) → (Nat → Int) := fun j c => if F ((i - rt) * 17 + j).toNat ≠ 0 then zup c (i * 17 + j).toNat ((c (i * 17 + j).toNat + mn * F ((i - rt) * 17 + j).toNat) % p) else c
def zcut_out (F : Nat → Int) (p rt mn : Int) : Int → (Nat → Int) → (Nat → Int) := fun i c => zfor (zcut_in F p rt mn i) 0 c (16 - i + 1 - 0).toNat
def zcutm (F G : Nat → Int) (p : Int) : Int := p - G (zgrt G * 17).toNat * zinv (F (zgrt F * 17).toNat) p % p
def zcut (F G : Nat → Int) (p : Int) : Nat → Int := if zgrt F < 0 ∨ zgrt G < zgrt F then G else zfor (zcut_out F p (zgrt G - zgrt F) (zcutm F G p)) (zgrt G - zgrt F) G (17 - (zgrt G - zgrt F)).toNat
theorem zcut_can {p q : Int} {F G : Nat → Int} (hp : 0 < p) (hq : p ≤ q) (h : zcan q G) : zcan q (zcut F G p) := by
  unfold zcut
  split
  · exact h
  · exact zfor_inv (zcan q) h (fun i x hx => zfor_inv (zcan q) hx (fun j y hy => by
      show zcan q (zcut_in F p _ _ i j y)
      unfold zcut_in
      split
      · exact zcan_up hy _ ⟨(zmr _ hp).1, Int.lt_of_lt_of_le (zmr _ hp).2 hq⟩
      · exact hy) _) _
/-- the RULES, one behind another: the sum, how many, the grids, how often each, which -/
abbrev zRs : Type := Int × Int × (Nat → Int) × (Nat → Int) × (Nat → Int) × (Nat → Int)
def zrun (p : Int) : Nat → Int → (Nat → Int) → (Nat → Int) → (Nat → Int) → (Nat → Int) → Int → zRs
  | 0, st, F, G, o, ki, sm => (sm, st, F, G, o, ki)
  | n + 1, st, F, G, o, ki, sm =>
    if zwhich F G = 1 then zrun p n (st + 1) (zspl F) G (zup o 1 (o 1 + 1)) (zup ki st.toNat 1) (sm + max (zlst G) 0)
    else if zwhich F G = 2 then zrun p n (st + 1) G F (zup o 2 (o 2 + 1)) (zup ki st.toNat 2) sm
    else if zwhich F G = 3 then zrun p n (st + 1) F (zcut F G p) (zup o 3 (o 3 + 1)) (zup ki st.toNat 3) sm
    else (sm, st + 1, F, G, zup o 0 (o 0 + 1), zup ki st.toNat 0)
theorem zrun_s (p : Int) {st : Int} (F G o ki : Nat → Int) (sm : Int) (h : st < 2048) : zrun p (2048 - st).toNat st F G o ki sm =
    if zwhich F G = 1 then zrun p (2048 - (st + 1)).toNat (st + 1) (zspl F) G (zup o 1 (o 1 + 1)) (zup ki st.toNat 1) (sm + max (zlst G) 0)
    else if zwhich F G = 2 then zrun p (2048 - (st + 1)).toNat (st + 1) G F (zup o 2 (o 2 + 1)) (zup ki st.toNat 2) sm
    else if zwhich F G = 3 then zrun p (2048 - (st + 1)).toNat (st + 1) F (zcut F G p) (zup o 3 (o 3 + 1)) (zup ki st.toNat 3) sm
    else (sm, st + 1, F, G, zup o 0 (o 0 + 1), zup ki st.toNat 0) := by
  rw [show (2048 - st).toNat = (2048 - (st + 1)).toNat + 1 by omega]
  rfl
def zrunA (p : Int) (a b ki : Nat → Int) : zRs := zrun p (2048 - 0 : Int).toNat 0 (zld a) (zld b) (fun _ => 0) ki 0
/-- a reduction at r; its grids lie either way round -/
def zRd (cI : ClassId) (f : Nat → va_E) (r x y : Nat) (st p : Int) (o ki F G : Nat → Int) : Prop :=
  f r = .inr (4, [.ref (r + 1), .ref (r + 2), .int (zI st), .ref x, .ref y, .int (zI p)]) ∧ f (r + 1) = zA cI 4 o ∧ f (r + 2) = zA cI 2048 ki ∧ f x = zA cI 289 F ∧ f y = zA cI 289 G ∧ ((x = r + 3 ∧ y = r + 4) ∨ (x = r + 4 ∧ y = r + 3))
theorem zRd.same {cI : ClassId} {f g : Nat → va_E} {r x y : Nat} {st p : Int} {o ki F G : Nat → Int} (h : zRd cI f r x y st p o ki F G) (hs : ∀ q, r ≤ q → q < r + 5 → g q = f q) : zRd cI g r x y st p o ki F G :=
  have hx := h.2.2.2.2.2
  ⟨(hs _ (by omega) (by omega)).trans h.1, (hs _ (by omega) (by omega)).trans h.2.1, (hs _ (by omega) (by omega)).trans h.2.2.1, (hs _ (by omega) (by omega)).trans h.2.2.2.1, (hs _ (by omega) (by omega)).trans h.2.2.2.2.1, hx⟩
set_option maxRecDepth 100000 in
set_option maxHeartbeats 4000000 in
/-- Reduction.load -/
theorem c_load (l : Launch) {D : va_G} {cI cJ cZ cP cS cM : ClassId} {L : List Nat} {sz : Nat} {f : Nat → va_E} (q : Nat) (F : Nat → Int) (h0 h : Nat) (d : Nat → Int) (hq : f q = zA cI 289 F) (hf0 : f h0 = .inr (2, [.ref h])) (hf1 : f h = zA cI 25 d) (hd : zcan 31 d) (hne : q ≠ h) (hne0 : q ≠ h0) : zMv l yX4_load wsX4_load 2 43 D (zT cI cJ cZ cP cS cM) L sz f [.ref q, .ref h0] (fun g => g = va_up f q (zA cI 289 (zld d))) := by
  refine zWalk.met (nL := 4) (ret := none) (cc := cX4_load) (by decide) rfl (Nat.le_of_ble_eq_true rfl) ?_
  intro pg en st mi ag bl mt cd ls CX hW hl
  have CX : zC pg st mi ag mt cd cX4_load 4 none RX4 wsX4_load := CX
  generalize hQ : MQ bl _ ag st 0 0 _ = Q
  have hX0 := CX.1
  have hB0 := CX.2.1
  have hl : lv_has ls 4 [(0, .ref q), (1, .ref h0)] := hl
  obtain ⟨H, eH⟩ : ∃ H, H = st.heap := ⟨_, rfl⟩
  obtain ⟨locs, eL⟩ : ∃ L : List Loc, L = [] := ⟨_, rfl⟩
  have hW : zW D (zT cI cJ cZ cP cS cM) L (zQ L sz) st f st.heap H locs := by rw [eH, eL]; exact hW
  suffices hgo : W pg l en ({ frames := 2, cells := 0, slots := 0, locals := 43 } : Room) st mi ag bl mt cd H locs 0 0 Q (F0 mi 0 ls []) by rw [eH, eL] at hgo; exact hgo
  clear eH eL
  refine lv_iconst (v := zI 0) hX0 hB0 dX4_load_0 rfl ?_
  refine lv_istore_n (lv' := [(2, .int (zI 0)), (0, .ref q), (1, .ref h0)]) hX0 hB0 dX4_load_1 rfl hl (by decide) rfl (fun ls hl => ?_)
  have hL2 : ∀ (fu : Nat) (k : Int) (cl : Nat → Int), (0 ≤ k ∧ k ≤ 289 ∧ ∀ j : Nat, (j : Int) < k → cl j = 0) → (289 - k).toNat < fu → ∀ (H : Heap) (locs : List Loc) (ls : Array Slot), zW D (zT cI cJ cZ cP cS cM) L (zQ L sz) st (va_up f q (zA cI 289 cl)) st.heap H locs → lv_has ls 4 [(2, .int (zI k)), (0, .ref q), (1, .ref h0)] → W pg l en ({ frames := 2, cells := 0, slots := 0, locals := 43 } : Room) st mi ag bl mt cd H locs 0 0 Q (F0 mi 2 ls []) := by
    intro fu
    induction fu with
    | zero => intro k cl _ hfu; exact absurd hfu (Nat.not_lt_zero _)
    | succ fu ih2 =>
      intro k cl hinv2 hfu2 H locs ls hW hl
      obtain ⟨hk0, hk1, hck⟩ := hinv2
      refine lv_iload_n hX0 hB0 dX4_load_2 rfl (lv_at hl 0 rfl) ?_
      refine lv_aload_n hX0 hB0 dX4_load_3 rfl (lv_at hl 1 rfl) ?_
      refine z_alen (n := 289) CX hW (va_up_self _ _ _) 0 rfl rfl dX4_load_4 ?_
      refine z_icmp_ge (tgt := 18) CX dX4_load_5 (by decide) (by constructor <;> omega) (by constructor <;> omega) (fun c_5 => ?_) (fun c_5 => ?_)
      ·
        have hW := hW.same (d := fun _ => 0) (fun j hj => hck j (by omega))
        refine lv_iconst (v := zI 0) hX0 hB0 dX4_load_18 rfl ?_
        refine lv_istore_n (lv' := [(2, .int (zI 0)), (0, .ref q), (1, .ref h0)]) hX0 hB0 dX4_load_19 rfl hl (by decide) rfl (fun ls hl => ?_)
        have hL20 : ∀ (fu : Nat) (i : Int) (co : Nat → Int), (0 ≤ i ∧ (i ≤ 5 ∨ i = 0) ∧ co = zfor (zld_out d) 0 ((fun _ => 0)) (i - 0).toNat ∧ True) → (5 - i).toNat < fu → ∀ (H : Heap) (locs : List Loc) (ls : Array Slot), zW D (zT cI cJ cZ cP cS cM) L (zQ L sz) st (va_up f q (zA cI 289 co)) st.heap H locs → lv_has ls 4 [(2, .int (zI i)), (0, .ref q), (1, .ref h0)] → W pg l en ({ frames := 2, cells := 0, slots := 0, locals := 43 } : Room) st mi ag bl mt cd H locs 0 0 Q (F0 mi 20 ls []) := by
          intro fu
          induction fu with
          | zero => intro i co _ hfu; exact absurd hfu (Nat.not_lt_zero _)
          | succ fu ih20 =>
            intro i co hinv20 hfu20 H locs ls hW hl
            obtain ⟨hi0, hi1, heco, -⟩ := hinv20
            refine lv_iload_n hX0 hB0 dX4_load_20 rfl (lv_at hl 0 rfl) ?_
            refine lv_iconst (v := zI 4) hX0 hB0 dX4_load_21 rfl ?_
            refine z_icmp_gt (tgt := 60) CX dX4_load_22 (by decide) (by constructor <;> omega) (by constructor <;> omega) (fun c_22 => ?_) (fun c_22 => ?_)
            ·
              rw [← hQ]
              exact z_vret CX hW (by rw [heco, show (i - 0).toNat = (5 - 0 : Int).toNat by omega]; rfl) dX4_load_60
            ·
              refine lv_iconst (v := zI 0) hX0 hB0 dX4_load_25 rfl ?_
              refine lv_istore_n (lv' := [(3, .int (zI 0)), (2, .int (zI i)), (0, .ref q), (1, .ref h0)]) hX0 hB0 dX4_load_26 rfl hl (by decide) rfl (fun ls hl => ?_)
              have hL27 : ∀ (fu : Nat) (j : Int) (ce : Nat → Int), (0 ≤ j ∧ (j ≤ 4 - i + 1 ∨ j = 0) ∧ ce = zfor (zld_in d i) 0 co (j - 0).toNat ∧ True) → (4 - i + 1 - j).toNat < fu → ∀ (H : Heap) (locs : List Loc) (ls : Array Slot), zW D (zT cI cJ cZ cP cS cM) L (zQ L sz) st (va_up f q (zA cI 289 ce)) st.heap H locs → lv_has ls 4 [(3, .int (zI j)), (2, .int (zI i)), (0, .ref q), (1, .ref h0)] → W pg l en ({ frames := 2, cells := 0, slots := 0, locals := 43 } : Room) st mi ag bl mt cd H locs 0 0 Q (F0 mi 27 ls []) := by
                intro fu
                induction fu with
                | zero => intro j ce _ hfu; exact absurd hfu (Nat.not_lt_zero _)
                | succ fu ih27 =>
                  intro j ce hinv27 hfu27 H locs ls hW hl
                  obtain ⟨hj0, hj1, hece, -⟩ := hinv27
                  refine lv_iload_n hX0 hB0 dX4_load_27 rfl (lv_at hl 0 rfl) ?_
                  refine lv_iconst (v := zI 4) hX0 hB0 dX4_load_28 rfl ?_
                  refine lv_iload_n hX0 hB0 dX4_load_29 rfl (lv_at hl 1 rfl) ?_
                  refine z_isub (z := 4 - i) CX dX4_load_30 rfl ?_
                  refine z_icmp_gt (tgt := 54) CX dX4_load_31 (by decide) (by constructor <;> omega) (by constructor <;> omega) (fun c_31 => ?_) (fun c_31 => ?_)
                  ·
                    refine lv_iinc (v := zI (i + 1)) (lv' := [(2, .int (zI (i + 1))), (3, .int (zI j)), (0, .ref q), (1, .ref h0)]) hX0 hB0 dX4_load_54 hl (k := 1) rfl (zI_add _ _) (by decide) rfl (fun ls hl => ?_)
                    refine lv_goto (tgt := 20) hX0 hB0 dX4_load_57 (by decide) ?_
                    exact ih20 (i + 1) ce ⟨by omega, by omega, by rw [zfor_s _ _ _ hi0, ← heco]; rw [hece]; show zfor _ 0 co _ = zfor _ 0 co _; congr 1; omega, trivial⟩ (by omega) H locs ls hW (lv_sub hl [0, 2, 3] rfl)
                  ·
                    refine lv_aload_n hX0 hB0 dX4_load_34 rfl (lv_at hl 2 rfl) ?_
                    refine lv_iload_n hX0 hB0 dX4_load_35 rfl (lv_at hl 1 rfl) ?_
                    refine lv_bipush (v := zI 17) hX0 hB0 dX4_load_36 (by decide) ?_
                    refine z_imul (z := i * 17) CX dX4_load_38 rfl ?_
                    refine lv_iload_n hX0 hB0 dX4_load_39 rfl (lv_at hl 0 rfl) ?_
                    refine z_iadd (z := (i * 17) + j) CX dX4_load_40 rfl ?_
                    refine lv_aload_n hX0 hB0 dX4_load_41 rfl (lv_at hl 3 rfl) ?_
                    refine lv_iload_n hX0 hB0 dX4_load_42 rfl (lv_at hl 1 rfl) ?_
                    refine lv_iload_n hX0 hB0 dX4_load_43 rfl (lv_at hl 0 rfl) ?_
                    refine z_calli hW (va_runV (C := RX2) (As := [.int (zI i), .int (zI j)]) (rest := [.int (zI ((i * 17) + j)), .ref q]) CX.fix (c_at l (f := va_up f q (zA cI 289 ce)) h0 h d i j ((va_up_ne _ _ (by omega)).trans hf0) ((va_up_ne _ _ (by omega)).trans hf1) (by constructor <;> omega) (by constructor <;> omega)) (cwV 2 CX.fix.2.2.2.2 gX4_load_X2_at rfl rfl rfl (by decide +kernel) ⟨Nat.le_of_ble_eq_true rfl, Nat.le_of_ble_eq_true rfl⟩) (z_preV CX hW (r := (RX2, TX2, 1)) ((va_up_ne _ _ (by omega)).trans hf0) rfl) rfl rfl hl.1 rfl (lv_room (Nat.le_of_ble_eq_true rfl)) dX4_load_44 ⟨Nat.zero_le _, Nat.zero_le _⟩) (fun zv gn H locs hok44 hW => ?_)
                    obtain ⟨ez, eg⟩ := hok44
                    have eg : gn = va_up f q (zA cI 289 ce) := eg
                    rw [eg] at hW
                    clear eg
                    have ez : zv = zat d i j := ez
                    rw [ez]
                    clear ez
                    have hat := zat_can (p := 31) (by omega) hd i j
                    refine z_iast CX hW (va_up_self _ _ _) 0 rfl (by refine ⟨?_, ?_, ?_⟩ <;> omega) (g := va_up f q (zA cI 289 (zup ce (((i * 17) + j).toNat) (zat d i j)))) va_up_up dX4_load_47 (fun H locs hW => ?_)
                    refine lv_iinc (v := zI (j + 1)) (lv' := [(3, .int (zI (j + 1))), (2, .int (zI i)), (0, .ref q), (1, .ref h0)]) hX0 hB0 dX4_load_48 hl (k := 0) rfl (zI_add _ _) (by decide) rfl (fun ls hl => ?_)
                    refine lv_goto (tgt := 27) hX0 hB0 dX4_load_51 (by decide) ?_
                    exact ih27 (j + 1) (zup ce (((i * 17) + j).toNat) (zat d i j)) ⟨by omega, by omega, by rw [zfor_s _ _ _ hj0, ← hece]; rfl, trivial⟩ (by omega) H locs ls hW (lv_sub hl [0, 1, 2, 3] rfl)
              exact hL27 _ 0 co ⟨by omega, Or.inr rfl, (zfor_0 _ _ _).symm, trivial⟩ (Nat.lt_succ_self _) H locs ls hW (lv_sub hl [0, 1, 2, 3] rfl)
        exact hL20 _ 0 ((fun _ => 0)) ⟨by omega, Or.inr rfl, (zfor_0 _ _ _).symm, trivial⟩ (Nat.lt_succ_self _) H locs ls hW (lv_sub hl [0, 1, 2] rfl)
      ·
        refine lv_aload_n hX0 hB0 dX4_load_8 rfl (lv_at hl 1 rfl) ?_
        refine lv_iload_n hX0 hB0 dX4_load_9 rfl (lv_at hl 0 rfl) ?_
        refine lv_iconst (v := zI 0) hX0 hB0 dX4_load_10 rfl ?_
        refine z_iast CX hW (va_up_self _ _ _) 0 rfl (by refine ⟨?_, ?_, ?_⟩ <;> omega) (g := va_up f q (zA cI 289 (zup cl k.toNat 0))) va_up_up dX4_load_11 (fun H locs hW => ?_)
        refine lv_iinc (v := zI (k + 1)) (lv' := [(2, .int (zI (k + 1))), (0, .ref q), (1, .ref h0)]) hX0 hB0 dX4_load_12 hl (k := 0) rfl (zI_add _ _) (by decide) rfl (fun ls hl => ?_)
        refine lv_goto (tgt := 2) hX0 hB0 dX4_load_15 (by decide) ?_
        exact ih2 (k + 1) (zup cl k.toNat 0) ⟨by omega, by omega, zup_step (b := cl) (q := fun _ => 0) hck hk0 rfl⟩ (by omega) H locs ls hW (lv_sub hl [0, 1, 2] rfl)
  have hW := hW
  rw [show f = va_up f q (zA cI 289 F) from by rw [va_up_id (a := q) hq]] at hW
  exact hL2 _ 0 F ⟨by omega, by omega, fun j hj => by omega⟩ (Nat.lt_succ_self _) H locs ls hW (lv_sub hl [0, 1, 2] rfl)
set_option maxRecDepth 100000 in
set_option maxHeartbeats 4000000 in
/-- Reduction.greatestPure -/
theorem c_greatestPure (l : Launch) {D : va_G} {cI cJ cZ cP cS cM : ClassId} {L : List Nat} {sz : Nat} {f : Nat → va_E} (q : Nat) (F : Nat → Int) (hq : f q = zA cI 289 F) (hF : zcan 31 F) : zMi l yX4_greatestPure wsX4_greatestPure 0 0 D (zT cI cJ cZ cP cS cM) L sz f [.ref q] (fun z g => z = zgrt F ∧ g = f) := by
  refine zWalk.met (nL := 2) (ret := (some .int)) (cc := cX4_greatestPure) (by decide) rfl (Nat.le_of_ble_eq_true rfl) ?_
  intro pg en st mi ag bl mt cd ls CX hW hl
  have CX : zC pg st mi ag mt cd cX4_greatestPure 2 (some .int) RX4 wsX4_greatestPure := CX
  generalize hQ : MQ bl _ ag st 0 0 _ = Q
  have hX0 := CX.1
  have hB0 := CX.2.1
  have hl : lv_has ls 2 [(0, .ref q)] := hl
  obtain ⟨H, eH⟩ : ∃ H, H = st.heap := ⟨_, rfl⟩
  obtain ⟨locs, eL⟩ : ∃ L : List Loc, L = [] := ⟨_, rfl⟩
  have hW : zW D (zT cI cJ cZ cP cS cM) L (zQ L sz) st f st.heap H locs := by rw [eH, eL]; exact hW
  suffices hgo : W pg l en ({ frames := 0, cells := 0, slots := 0, locals := 0 } : Room) st mi ag bl mt cd H locs 0 0 Q (F0 mi 0 ls []) by rw [eH, eL] at hgo; exact hgo
  clear eH eL
  refine lv_bipush (v := zI 16) hX0 hB0 dX4_greatestPure_0 (by decide) ?_
  refine lv_istore_n (lv' := [(1, .int (zI 16)), (0, .ref q)]) hX0 hB0 dX4_greatestPure_2 rfl hl (by decide) rfl (fun ls hl => ?_)
  have hL3 : ∀ (fu : Nat) (i : Int), (-1 ≤ i ∧ i ≤ 16 ∧ zgrt F = zgrtF F (i + 1).toNat) → (i + 1).toNat < fu → ∀ (H : Heap) (locs : List Loc) (ls : Array Slot), zW D (zT cI cJ cZ cP cS cM) L (zQ L sz) st f st.heap H locs → lv_has ls 2 [(1, .int (zI i)), (0, .ref q)] → W pg l en ({ frames := 0, cells := 0, slots := 0, locals := 0 } : Room) st mi ag bl mt cd H locs 0 0 Q (F0 mi 3 ls []) := by
    intro fu
    induction fu with
    | zero => intro i _ hfu; exact absurd hfu (Nat.not_lt_zero _)
    | succ fu ih3 =>
      intro i hinv3 hfu3 H locs ls hW hl
      obtain ⟨hi0, hi1, hiz⟩ := hinv3
      refine lv_iload_n hX0 hB0 dX4_greatestPure_3 rfl (lv_at hl 0 rfl) ?_
      refine z_if_lt (tgt := 24) CX dX4_greatestPure_4 (by decide) (by constructor <;> omega) (fun c_4 => ?_) (fun c_4 => ?_)
      ·
        refine lv_iconst (v := zI (-1)) hX0 hB0 dX4_greatestPure_24 rfl ?_
        rw [← hQ]
        exact z_iret (z := -1) CX hW (by exact ⟨by rw [hiz, show (i + 1).toNat = 0 by omega]; rfl, rfl⟩) rfl dX4_greatestPure_25
      ·
        refine lv_aload_n hX0 hB0 dX4_greatestPure_7 rfl (lv_at hl 1 rfl) ?_
        refine lv_iload_n hX0 hB0 dX4_greatestPure_8 rfl (lv_at hl 0 rfl) ?_
        refine lv_bipush (v := zI 17) hX0 hB0 dX4_greatestPure_9 (by decide) ?_
        refine z_imul (z := i * 17) CX dX4_greatestPure_11 rfl ?_
        refine z_iald (z := F ((i * 17).toNat)) CX hW hq 0 rfl (by refine ⟨?_, ?_, ?_⟩ <;> omega) rfl dX4_greatestPure_12 ?_
        have hr1 := hF ((i * 17).toNat)
        refine z_if_eq (tgt := 18) CX dX4_greatestPure_13 (by decide) (by constructor <;> omega) (fun c_13 => ?_) (fun c_13 => ?_)
        ·
          refine lv_iinc (v := zI (i + (-1))) (lv' := [(1, .int (zI (i + (-1)))), (0, .ref q)]) hX0 hB0 dX4_greatestPure_18 hl (k := 0) rfl (zI_add _ _) (by decide) rfl (fun ls hl => ?_)
          refine lv_goto (tgt := 3) hX0 hB0 dX4_greatestPure_21 (by decide) ?_
          exact ih3 (i + (-1)) ⟨by omega, by omega, by rw [hiz, zgrtF_s F (by omega), if_neg (fun h => h c_13)]; rfl⟩ (by omega) H locs ls hW (lv_sub hl [0, 1] rfl)
        ·
          refine lv_iload_n hX0 hB0 dX4_greatestPure_16 rfl (lv_at hl 0 rfl) ?_
          rw [← hQ]
          exact z_iret (z := i) CX hW (by exact ⟨by rw [hiz, zgrtF_s F (by omega), if_pos c_13], rfl⟩) rfl dX4_greatestPure_17
  exact hL3 _ 16 ⟨by omega, by omega, rfl⟩ (Nat.lt_succ_self _) H locs ls hW (lv_sub hl [0, 1] rfl)
set_option maxRecDepth 100000 in
set_option maxHeartbeats 4000000 in
/-- Reduction.leastPure -/
theorem c_leastPure (l : Launch) {D : va_G} {cI cJ cZ cP cS cM : ClassId} {L : List Nat} {sz : Nat} {f : Nat → va_E} (q : Nat) (F : Nat → Int) (hq : f q = zA cI 289 F) (hF : zcan 31 F) : zMi l yX4_leastPure wsX4_leastPure 0 0 D (zT cI cJ cZ cP cS cM) L sz f [.ref q] (fun z g => z = zlst F ∧ g = f) := by
  refine zWalk.met (nL := 2) (ret := (some .int)) (cc := cX4_leastPure) (by decide) rfl (Nat.le_of_ble_eq_true rfl) ?_
  intro pg en st mi ag bl mt cd ls CX hW hl
  have CX : zC pg st mi ag mt cd cX4_leastPure 2 (some .int) RX4 wsX4_leastPure := CX
  generalize hQ : MQ bl _ ag st 0 0 _ = Q
  have hX0 := CX.1
  have hB0 := CX.2.1
  have hl : lv_has ls 2 [(0, .ref q)] := hl
  obtain ⟨H, eH⟩ : ∃ H, H = st.heap := ⟨_, rfl⟩
  obtain ⟨locs, eL⟩ : ∃ L : List Loc, L = [] := ⟨_, rfl⟩
  have hW : zW D (zT cI cJ cZ cP cS cM) L (zQ L sz) st f st.heap H locs := by rw [eH, eL]; exact hW
  suffices hgo : W pg l en ({ frames := 0, cells := 0, slots := 0, locals := 0 } : Room) st mi ag bl mt cd H locs 0 0 Q (F0 mi 0 ls []) by rw [eH, eL] at hgo; exact hgo
  clear eH eL
  refine lv_iconst (v := zI 0) hX0 hB0 dX4_leastPure_0 rfl ?_
  refine lv_istore_n (lv' := [(1, .int (zI 0)), (0, .ref q)]) hX0 hB0 dX4_leastPure_1 rfl hl (by decide) rfl (fun ls hl => ?_)
  have hL2 : ∀ (fu : Nat) (i : Int), (0 ≤ i ∧ i ≤ 17 ∧ zlst F = zlstF F (17 - i).toNat i) → (17 - i).toNat < fu → ∀ (H : Heap) (locs : List Loc) (ls : Array Slot), zW D (zT cI cJ cZ cP cS cM) L (zQ L sz) st f st.heap H locs → lv_has ls 2 [(1, .int (zI i)), (0, .ref q)] → W pg l en ({ frames := 0, cells := 0, slots := 0, locals := 0 } : Room) st mi ag bl mt cd H locs 0 0 Q (F0 mi 2 ls []) := by
    intro fu
    induction fu with
    | zero => intro i _ hfu; exact absurd hfu (Nat.not_lt_zero _)
    | succ fu ih2 =>
      intro i hinv2 hfu2 H locs ls hW hl
      obtain ⟨hi0, hi1, hiz⟩ := hinv2
      refine lv_iload_n hX0 hB0 dX4_leastPure_2 rfl (lv_at hl 0 rfl) ?_
      refine lv_bipush (v := zI 16) hX0 hB0 dX4_leastPure_3 (by decide) ?_
      refine z_icmp_gt (tgt := 25) CX dX4_leastPure_5 (by decide) (by constructor <;> omega) (by constructor <;> omega) (fun c_5 => ?_) (fun c_5 => ?_)
      ·
        refine lv_iconst (v := zI (-1)) hX0 hB0 dX4_leastPure_25 rfl ?_
        rw [← hQ]
        exact z_iret (z := -1) CX hW (by exact ⟨by rw [hiz, show (17 - i).toNat = 0 by omega]; rfl, rfl⟩) rfl dX4_leastPure_26
      ·
        refine lv_aload_n hX0 hB0 dX4_leastPure_8 rfl (lv_at hl 1 rfl) ?_
        refine lv_iload_n hX0 hB0 dX4_leastPure_9 rfl (lv_at hl 0 rfl) ?_
        refine lv_bipush (v := zI 17) hX0 hB0 dX4_leastPure_10 (by decide) ?_
        refine z_imul (z := i * 17) CX dX4_leastPure_12 rfl ?_
        refine z_iald (z := F ((i * 17).toNat)) CX hW hq 0 rfl (by refine ⟨?_, ?_, ?_⟩ <;> omega) rfl dX4_leastPure_13 ?_
        have hr1 := hF ((i * 17).toNat)
        refine z_if_eq (tgt := 19) CX dX4_leastPure_14 (by decide) (by constructor <;> omega) (fun c_14 => ?_) (fun c_14 => ?_)
        ·
          refine lv_iinc (v := zI (i + 1)) (lv' := [(1, .int (zI (i + 1))), (0, .ref q)]) hX0 hB0 dX4_leastPure_19 hl (k := 0) rfl (zI_add _ _) (by decide) rfl (fun ls hl => ?_)
          refine lv_goto (tgt := 2) hX0 hB0 dX4_leastPure_22 (by decide) ?_
          exact ih2 (i + 1) ⟨by omega, by omega, by rw [hiz, zlstF_s F (by omega), if_neg (fun h => h c_14)]⟩ (by omega) H locs ls hW (lv_sub hl [0, 1] rfl)
        ·
          refine lv_iload_n hX0 hB0 dX4_leastPure_17 rfl (lv_at hl 0 rfl) ?_
          rw [← hQ]
          exact z_iret (z := i) CX hW (by exact ⟨by rw [hiz, zlstF_s F (by omega), if_pos c_14], rfl⟩) rfl dX4_leastPure_18
  exact hL2 _ 0 ⟨by omega, by omega, rfl⟩ (Nat.lt_succ_self _) H locs ls hW (lv_sub hl [0, 1] rfl)
set_option maxRecDepth 100000 in
set_option maxHeartbeats 4000000 in
/-- Reduction.whichFits -/
theorem c_whichFits (l : Launch) {D : va_G} {cI cJ cZ cP cS cM : ClassId} {L : List Nat} {sz : Nat} {f : Nat → va_E} (r x y : Nat) (sn p : Int) (o ki F G : Nat → Int) (hD : zRd cI f r x y sn p o ki F G) (hF : zcan 31 F) (hG : zcan 31 G) : zMi l yX4_whichFits wsX4_whichFits 1 21 D (zT cI cJ cZ cP cS cM) L sz f [.ref r] (fun z g => z = zwhich F G ∧ g = f) := by
  refine zWalk.met (nL := 3) (ret := (some .int)) (cc := cX4_whichFits) (by decide) rfl (Nat.le_of_ble_eq_true rfl) ?_
  intro pg en st mi ag bl mt cd ls CX hW hl
  have CX : zC pg st mi ag mt cd cX4_whichFits 3 (some .int) RX4 wsX4_whichFits := CX
  generalize hQ : MQ bl _ ag st 0 0 _ = Q
  have hX0 := CX.1
  have hB0 := CX.2.1
  have hl : lv_has ls 3 [(0, .ref r)] := hl
  obtain ⟨H, eH⟩ : ∃ H, H = st.heap := ⟨_, rfl⟩
  obtain ⟨locs, eL⟩ : ∃ L : List Loc, L = [] := ⟨_, rfl⟩
  have hW : zW D (zT cI cJ cZ cP cS cM) L (zQ L sz) st f st.heap H locs := by rw [eH, eL]; exact hW
  suffices hgo : W pg l en ({ frames := 1, cells := 0, slots := 0, locals := 21 } : Room) st mi ag bl mt cd H locs 0 0 Q (F0 mi 0 ls []) by rw [eH, eL] at hgo; exact hgo
  clear eH eL
  have hxy := hD.2.2.2.2.2
  refine lv_aload_n hX0 hB0 dX4_whichFits_0 rfl (lv_at hl 0 rfl) ?_
  refine z_get (Cn := RX4) (T := TX4) (N := 6) CX hW (v := .ref x) hD.1 rfl (fun w h => List.mem_cons_of_mem _ (List.mem_append_right _ h)) 3 (by decide) (List.mem_of_getElem? (i := 1) rfl) rfl rfl dX4_whichFits_1 ?_
  refine lv_iconst (v := zI 0) hX0 hB0 dX4_whichFits_4 rfl ?_
  refine z_iald (z := F ((0 : Int).toNat)) CX hW hD.2.2.2.1 0 rfl (by refine ⟨?_, ?_, ?_⟩ <;> omega) rfl dX4_whichFits_5 ?_
  have hr1 := hF ((0 : Int).toNat)
  refine z_if_ne (tgt := 18) CX dX4_whichFits_6 (by decide) (by constructor <;> omega) (fun c_6 => ?_) (fun c_6 => ?_)
  ·
    refine lv_iconst (v := zI 0) hX0 hB0 dX4_whichFits_18 rfl ?_
    rw [← hQ]
    exact z_iret (z := 0) CX hW (by exact ⟨by unfold zwhich; rw [if_pos (show F 0 ≠ 0 ∨ G 0 ≠ 0 by first | exact Or.inl c_6 | exact Or.inr c_15)], rfl⟩) rfl dX4_whichFits_19
  ·
    refine lv_aload_n hX0 hB0 dX4_whichFits_9 rfl (lv_at hl 0 rfl) ?_
    refine z_get (Cn := RX4) (T := TX4) (N := 6) CX hW (v := .ref y) hD.1 rfl (fun w h => List.mem_cons_of_mem _ (List.mem_append_right _ h)) 4 (by decide) (List.mem_of_getElem? (i := 2) rfl) rfl rfl dX4_whichFits_10 ?_
    refine lv_iconst (v := zI 0) hX0 hB0 dX4_whichFits_13 rfl ?_
    refine z_iald (z := G ((0 : Int).toNat)) CX hW hD.2.2.2.2.1 0 rfl (by refine ⟨?_, ?_, ?_⟩ <;> omega) rfl dX4_whichFits_14 ?_
    have hr2 := hG ((0 : Int).toNat)
    refine z_if_eq (tgt := 20) CX dX4_whichFits_15 (by decide) (by constructor <;> omega) (fun c_15 => ?_) (fun c_15 => ?_)
    ·
      refine lv_aload_n hX0 hB0 dX4_whichFits_20 rfl (lv_at hl 0 rfl) ?_
      refine z_get (Cn := RX4) (T := TX4) (N := 6) CX hW (v := .ref x) hD.1 rfl (fun w h => List.mem_cons_of_mem _ (List.mem_append_right _ h)) 3 (by decide) (List.mem_of_getElem? (i := 1) rfl) rfl rfl dX4_whichFits_21 ?_
      refine z_calli hW (va_runS (As := [.ref x]) (rest := []) CX.fix (c_greatestPure l (f := f) x F hD.2.2.2.1 (by assumption)) (va_cwS 1 CX.fix.2.2.2.2 gX4_whichFits_X4_greatestPure rfl rfl rfl (by decide +kernel) ⟨Nat.le_of_ble_eq_true rfl, Nat.le_of_ble_eq_true rfl⟩) (z_preS CX hW) rfl rfl hl.1 rfl (lv_room (Nat.le_of_ble_eq_true rfl)) dX4_whichFits_24 ⟨Nat.zero_le _, Nat.zero_le _⟩) (fun zv gn H locs hok24 hW => ?_)
      obtain ⟨ez, eg⟩ := hok24
      have eg : gn = f := eg
      rw [eg] at hW
      clear eg
      have ez : zv = zgrt F := ez
      rw [ez]
      clear ez
      have hzgrt24 := zgrt_rng F
      refine lv_istore_n (lv' := [(1, .int (zI (zgrt F))), (0, .ref r)]) hX0 hB0 dX4_whichFits_27 rfl hl (by decide) rfl (fun ls hl => ?_)
      refine lv_aload_n hX0 hB0 dX4_whichFits_28 rfl (lv_at hl 1 rfl) ?_
      refine z_get (Cn := RX4) (T := TX4) (N := 6) CX hW (v := .ref y) hD.1 rfl (fun w h => List.mem_cons_of_mem _ (List.mem_append_right _ h)) 4 (by decide) (List.mem_of_getElem? (i := 2) rfl) rfl rfl dX4_whichFits_29 ?_
      refine z_calli hW (va_runS (As := [.ref y]) (rest := []) CX.fix (c_greatestPure l (f := f) y G hD.2.2.2.2.1 (by assumption)) (va_cwS 1 CX.fix.2.2.2.2 gX4_whichFits_X4_greatestPure rfl rfl rfl (by decide +kernel) ⟨Nat.le_of_ble_eq_true rfl, Nat.le_of_ble_eq_true rfl⟩) (z_preS CX hW) rfl rfl hl.1 rfl (lv_room (Nat.le_of_ble_eq_true rfl)) dX4_whichFits_32 ⟨Nat.zero_le _, Nat.zero_le _⟩) (fun zv gn H locs hok32 hW => ?_)
      obtain ⟨ez, eg⟩ := hok32
      have eg : gn = f := eg
      rw [eg] at hW
      clear eg
      have ez : zv = zgrt G := ez
      rw [ez]
      clear ez
      have hzgrt32 := zgrt_rng G
      refine lv_istore_n (lv' := [(2, .int (zI (zgrt G))), (1, .int (zI (zgrt F))), (0, .ref r)]) hX0 hB0 dX4_whichFits_35 rfl hl (by decide) rfl (fun ls hl => ?_)
      refine lv_iload_n hX0 hB0 dX4_whichFits_36 rfl (lv_at hl 1 rfl) ?_
      refine z_if_ge (tgt := 42) CX dX4_whichFits_37 (by decide) (by constructor <;> omega) (fun c_37 => ?_) (fun c_37 => ?_)
      ·
        refine lv_iload_n hX0 hB0 dX4_whichFits_42 rfl (lv_at hl 0 rfl) ?_
        refine z_if_lt (tgt := 51) CX dX4_whichFits_43 (by decide) (by constructor <;> omega) (fun c_43 => ?_) (fun c_43 => ?_)
        ·
          refine lv_iconst (v := zI 2) hX0 hB0 dX4_whichFits_51 rfl ?_
          refine lv_goto (tgt := 56) hX0 hB0 dX4_whichFits_52 (by decide) ?_
          rw [← hQ]
          exact z_iret (z := 2) CX hW (by exact ⟨by unfold zwhich; rw [if_neg (show ¬ (F 0 ≠ 0 ∨ G 0 ≠ 0) from fun q => q.elim (fun q => q c_6) (fun q => q c_15)), if_neg (by omega)]; first | rw [if_pos (by omega)] | rw [if_neg (by omega)], rfl⟩) rfl dX4_whichFits_56
        ·
          refine lv_iload_n hX0 hB0 dX4_whichFits_46 rfl (lv_at hl 1 rfl) ?_
          refine lv_iload_n hX0 hB0 dX4_whichFits_47 rfl (lv_at hl 0 rfl) ?_
          refine z_icmp_le (tgt := 55) CX dX4_whichFits_48 (by decide) (by constructor <;> omega) (by constructor <;> omega) (fun c_48 => ?_) (fun c_48 => ?_)
          ·
            refine lv_iconst (v := zI 3) hX0 hB0 dX4_whichFits_55 rfl ?_
            rw [← hQ]
            exact z_iret (z := 3) CX hW (by exact ⟨by unfold zwhich; rw [if_neg (show ¬ (F 0 ≠ 0 ∨ G 0 ≠ 0) from fun q => q.elim (fun q => q c_6) (fun q => q c_15)), if_neg (by omega)]; first | rw [if_pos (by omega)] | rw [if_neg (by omega)], rfl⟩) rfl dX4_whichFits_56
          ·
            refine lv_iconst (v := zI 2) hX0 hB0 dX4_whichFits_51 rfl ?_
            refine lv_goto (tgt := 56) hX0 hB0 dX4_whichFits_52 (by decide) ?_
            rw [← hQ]
            exact z_iret (z := 2) CX hW (by exact ⟨by unfold zwhich; rw [if_neg (show ¬ (F 0 ≠ 0 ∨ G 0 ≠ 0) from fun q => q.elim (fun q => q c_6) (fun q => q c_15)), if_neg (by omega)]; first | rw [if_pos (by omega)] | rw [if_neg (by omega)], rfl⟩) rfl dX4_whichFits_56
      ·
        refine lv_iconst (v := zI 1) hX0 hB0 dX4_whichFits_40 rfl ?_
        rw [← hQ]
        exact z_iret (z := 1) CX hW (by exact ⟨by unfold zwhich; rw [if_neg (show ¬ (F 0 ≠ 0 ∨ G 0 ≠ 0) from fun q => q.elim (fun q => q c_6) (fun q => q c_15)), if_pos c_37], rfl⟩) rfl dX4_whichFits_41
    ·
      refine lv_iconst (v := zI 0) hX0 hB0 dX4_whichFits_18 rfl ?_
      rw [← hQ]
      exact z_iret (z := 0) CX hW (by exact ⟨by unfold zwhich; rw [if_pos (show F 0 ≠ 0 ∨ G 0 ≠ 0 by first | exact Or.inl c_6 | exact Or.inr c_15)], rfl⟩) rfl dX4_whichFits_19
set_option maxRecDepth 100000 in
set_option maxHeartbeats 4000000 in
/-- Reduction.split -/
theorem c_split (l : Launch) {D : va_G} {cI cJ cZ cP cS cM : ClassId} {L : List Nat} {sz : Nat} {f : Nat → va_E} (r x y : Nat) (sn p : Int) (o ki F G : Nat → Int) (hD : zRd cI f r x y sn p o ki F G) (hF : zcan 31 F) (hG : zcan 31 G) : zMv l yX4_split wsX4_split 0 0 D (zT cI cJ cZ cP cS cM) L sz f [.ref r] (fun g => g = va_up f x (zA cI 289 (zspl F))) := by
  refine zWalk.met (nL := 3) (ret := none) (cc := cX4_split) (by decide) rfl (Nat.le_of_ble_eq_true rfl) ?_
  intro pg en st mi ag bl mt cd ls CX hW hl
  have CX : zC pg st mi ag mt cd cX4_split 3 none RX4 wsX4_split := CX
  generalize hQ : MQ bl _ ag st 0 0 _ = Q
  have hX0 := CX.1
  have hB0 := CX.2.1
  have hl : lv_has ls 3 [(0, .ref r)] := hl
  obtain ⟨H, eH⟩ : ∃ H, H = st.heap := ⟨_, rfl⟩
  obtain ⟨locs, eL⟩ : ∃ L : List Loc, L = [] := ⟨_, rfl⟩
  have hW : zW D (zT cI cJ cZ cP cS cM) L (zQ L sz) st f st.heap H locs := by rw [eH, eL]; exact hW
  suffices hgo : W pg l en ({ frames := 0, cells := 0, slots := 0, locals := 0 } : Room) st mi ag bl mt cd H locs 0 0 Q (F0 mi 0 ls []) by rw [eH, eL] at hgo; exact hgo
  clear eH eL
  have hxy := hD.2.2.2.2.2
  refine lv_iconst (v := zI 0) hX0 hB0 dX4_split_0 rfl ?_
  refine lv_istore_n (lv' := [(1, .int (zI 0)), (0, .ref r)]) hX0 hB0 dX4_split_1 rfl hl (by decide) rfl (fun ls hl => ?_)
  have hL2 : ∀ (fu : Nat) (i : Int) (co : Nat → Int), (0 ≤ i ∧ (i ≤ 17 ∨ i = 0) ∧ co = zfor (zspl_out) 0 F (i - 0).toNat ∧ True) → (17 - i).toNat < fu → ∀ (H : Heap) (locs : List Loc) (ls : Array Slot), zW D (zT cI cJ cZ cP cS cM) L (zQ L sz) st (va_up f x (zA cI 289 co)) st.heap H locs → lv_has ls 3 [(1, .int (zI i)), (0, .ref r)] → W pg l en ({ frames := 0, cells := 0, slots := 0, locals := 0 } : Room) st mi ag bl mt cd H locs 0 0 Q (F0 mi 2 ls []) := by
    intro fu
    induction fu with
    | zero => intro i co _ hfu; exact absurd hfu (Nat.not_lt_zero _)
    | succ fu ih2 =>
      intro i co hinv2 hfu2 H locs ls hW hl
      obtain ⟨hi0, hi1, heco, -⟩ := hinv2
      refine lv_iload_n hX0 hB0 dX4_split_2 rfl (lv_at hl 0 rfl) ?_
      refine lv_bipush (v := zI 16) hX0 hB0 dX4_split_3 (by decide) ?_
      refine z_icmp_gt (tgt := 65) CX dX4_split_5 (by decide) (by constructor <;> omega) (by constructor <;> omega) (fun c_5 => ?_) (fun c_5 => ?_)
      ·
        rw [← hQ]
        exact z_vret CX hW (by rw [heco, show (i - 0).toNat = (17 - 0 : Int).toNat by omega]; rfl) dX4_split_65
      ·
        refine lv_iconst (v := zI 0) hX0 hB0 dX4_split_8 rfl ?_
        refine lv_istore_n (lv' := [(2, .int (zI 0)), (1, .int (zI i)), (0, .ref r)]) hX0 hB0 dX4_split_9 rfl hl (by decide) rfl (fun ls hl => ?_)
        have hL10 : ∀ (fu : Nat) (j : Int) (ce : Nat → Int), (0 ≤ j ∧ (j ≤ 16 ∨ j = 0) ∧ ce = zfor (zspl_in i) 0 co (j - 0).toNat ∧ True) → (16 - j).toNat < fu → ∀ (H : Heap) (locs : List Loc) (ls : Array Slot), zW D (zT cI cJ cZ cP cS cM) L (zQ L sz) st (va_up f x (zA cI 289 ce)) st.heap H locs → lv_has ls 3 [(2, .int (zI j)), (1, .int (zI i)), (0, .ref r)] → W pg l en ({ frames := 0, cells := 0, slots := 0, locals := 0 } : Room) st mi ag bl mt cd H locs 0 0 Q (F0 mi 10 ls []) := by
          intro fu
          induction fu with
          | zero => intro j ce _ hfu; exact absurd hfu (Nat.not_lt_zero _)
          | succ fu ih10 =>
            intro j ce hinv10 hfu10 H locs ls hW hl
            obtain ⟨hj0, hj1, hece, -⟩ := hinv10
            refine lv_iload_n hX0 hB0 dX4_split_10 rfl (lv_at hl 0 rfl) ?_
            refine lv_bipush (v := zI 16) hX0 hB0 dX4_split_11 (by decide) ?_
            refine z_icmp_ge (tgt := 46) CX dX4_split_13 (by decide) (by constructor <;> omega) (by constructor <;> omega) (fun c_13 => ?_) (fun c_13 => ?_)
            ·
              refine lv_aload_n hX0 hB0 dX4_split_46 rfl (lv_at hl 2 rfl) ?_
              refine z_get (Cn := RX4) (T := TX4) (N := 6) CX hW (v := .ref x) ((va_up_ne _ _ (by omega)).trans hD.1) rfl (fun w h => List.mem_cons_of_mem _ (List.mem_append_right _ h)) 3 (by decide) (List.mem_of_getElem? (i := 1) rfl) rfl rfl dX4_split_47 ?_
              refine lv_iload_n hX0 hB0 dX4_split_50 rfl (lv_at hl 1 rfl) ?_
              refine lv_bipush (v := zI 17) hX0 hB0 dX4_split_51 (by decide) ?_
              refine z_imul (z := i * 17) CX dX4_split_53 rfl ?_
              refine lv_bipush (v := zI 16) hX0 hB0 dX4_split_54 (by decide) ?_
              refine z_iadd (z := (i * 17) + 16) CX dX4_split_56 rfl ?_
              refine lv_iconst (v := zI 0) hX0 hB0 dX4_split_57 rfl ?_
              refine z_iast CX hW (va_up_self _ _ _) 0 rfl (by refine ⟨?_, ?_, ?_⟩ <;> omega) (g := va_up f x (zA cI 289 (zup ce (((i * 17) + 16).toNat) 0))) va_up_up dX4_split_58 (fun H locs hW => ?_)
              refine lv_iinc (v := zI (i + 1)) (lv' := [(1, .int (zI (i + 1))), (2, .int (zI j)), (0, .ref r)]) hX0 hB0 dX4_split_59 hl (k := 1) rfl (zI_add _ _) (by decide) rfl (fun ls hl => ?_)
              refine lv_goto (tgt := 2) hX0 hB0 dX4_split_62 (by decide) ?_
              exact ih2 (i + 1) (zup ce (((i * 17) + 16).toNat) 0) ⟨by omega, by omega, by rw [zfor_s _ _ _ hi0, ← heco]; rw [hece]; show zup (zfor _ 0 co _) _ 0 = zup (zfor _ 0 co _) _ 0; rw [show (j - 0).toNat = (16 - 0 : Int).toNat by omega], trivial⟩ (by omega) H locs ls hW (lv_sub hl [0, 2] rfl)
            ·
              refine lv_aload_n hX0 hB0 dX4_split_16 rfl (lv_at hl 2 rfl) ?_
              refine z_get (Cn := RX4) (T := TX4) (N := 6) CX hW (v := .ref x) ((va_up_ne _ _ (by omega)).trans hD.1) rfl (fun w h => List.mem_cons_of_mem _ (List.mem_append_right _ h)) 3 (by decide) (List.mem_of_getElem? (i := 1) rfl) rfl rfl dX4_split_17 ?_
              refine lv_iload_n hX0 hB0 dX4_split_20 rfl (lv_at hl 1 rfl) ?_
              refine lv_bipush (v := zI 17) hX0 hB0 dX4_split_21 (by decide) ?_
              refine z_imul (z := i * 17) CX dX4_split_23 rfl ?_
              refine lv_iload_n hX0 hB0 dX4_split_24 rfl (lv_at hl 0 rfl) ?_
              refine z_iadd (z := (i * 17) + j) CX dX4_split_25 rfl ?_
              refine lv_aload_n hX0 hB0 dX4_split_26 rfl (lv_at hl 2 rfl) ?_
              refine z_get (Cn := RX4) (T := TX4) (N := 6) CX hW (v := .ref x) ((va_up_ne _ _ (by omega)).trans hD.1) rfl (fun w h => List.mem_cons_of_mem _ (List.mem_append_right _ h)) 3 (by decide) (List.mem_of_getElem? (i := 1) rfl) rfl rfl dX4_split_27 ?_
              refine lv_iload_n hX0 hB0 dX4_split_30 rfl (lv_at hl 1 rfl) ?_
              refine lv_bipush (v := zI 17) hX0 hB0 dX4_split_31 (by decide) ?_
              refine z_imul (z := i * 17) CX dX4_split_33 rfl ?_
              refine lv_iload_n hX0 hB0 dX4_split_34 rfl (lv_at hl 0 rfl) ?_
              refine z_iadd (z := (i * 17) + j) CX dX4_split_35 rfl ?_
              refine lv_iconst (v := zI 1) hX0 hB0 dX4_split_36 rfl ?_
              refine z_iadd (z := ((i * 17) + j) + 1) CX dX4_split_37 rfl ?_
              refine z_iald (z := ce ((((i * 17) + j) + 1).toNat)) CX hW (va_up_self _ _ _) 0 rfl (by refine ⟨?_, ?_, ?_⟩ <;> omega) rfl dX4_split_38 ?_
              refine z_iast CX hW (va_up_self _ _ _) 0 rfl (by refine ⟨?_, ?_, ?_⟩ <;> omega) (g := va_up f x (zA cI 289 (zup ce (((i * 17) + j).toNat) (ce ((((i * 17) + j) + 1).toNat))))) va_up_up dX4_split_39 (fun H locs hW => ?_)
              refine lv_iinc (v := zI (j + 1)) (lv' := [(2, .int (zI (j + 1))), (1, .int (zI i)), (0, .ref r)]) hX0 hB0 dX4_split_40 hl (k := 0) rfl (zI_add _ _) (by decide) rfl (fun ls hl => ?_)
              refine lv_goto (tgt := 10) hX0 hB0 dX4_split_43 (by decide) ?_
              exact ih10 (j + 1) (zup ce (((i * 17) + j).toNat) (ce ((((i * 17) + j) + 1).toNat))) ⟨by omega, by omega, by rw [zfor_s _ _ _ hj0, ← hece]; rfl, trivial⟩ (by omega) H locs ls hW (lv_sub hl [0, 1, 2] rfl)
        exact hL10 _ 0 co ⟨by omega, Or.inr rfl, (zfor_0 _ _ _).symm, trivial⟩ (Nat.lt_succ_self _) H locs ls hW (lv_sub hl [0, 1, 2] rfl)
  have hW := hW
  rw [show f = va_up f x (zA cI 289 F) from by rw [va_up_id (a := x) hD.2.2.2.1]] at hW
  exact hL2 _ 0 F ⟨by omega, Or.inr rfl, (zfor_0 _ _ _).symm, trivial⟩ (Nat.lt_succ_self _) H locs ls hW (lv_sub hl [0, 1] rfl)
set_option maxRecDepth 100000 in
set_option maxHeartbeats 4000000 in
/-- Reduction.swap -/
theorem c_swap (l : Launch) {D : va_G} {cI cJ cZ cP cS cM : ClassId} {L : List Nat} {sz : Nat} {f : Nat → va_E} (r x y : Nat) (sn p : Int) (o ki F G : Nat → Int) (hD : zRd cI f r x y sn p o ki F G) (hF : zcan 31 F) (hG : zcan 31 G) : zMv l yX4_swap wsX4_swap 0 0 D (zT cI cJ cZ cP cS cM) L sz f [.ref r] (fun g => g = va_up f r (.inr (4, [.ref (r + 1), .ref (r + 2), .int (zI sn), .ref y, .ref x, .int (zI p)]))) := by
  refine zWalk.met (nL := 2) (ret := none) (cc := cX4_swap) (by decide) rfl (Nat.le_of_ble_eq_true rfl) ?_
  intro pg en st mi ag bl mt cd ls CX hW hl
  have CX : zC pg st mi ag mt cd cX4_swap 2 none RX4 wsX4_swap := CX
  generalize hQ : MQ bl _ ag st 0 0 _ = Q
  have hX0 := CX.1
  have hB0 := CX.2.1
  have hl : lv_has ls 2 [(0, .ref r)] := hl
  obtain ⟨H, eH⟩ : ∃ H, H = st.heap := ⟨_, rfl⟩
  obtain ⟨locs, eL⟩ : ∃ L : List Loc, L = [] := ⟨_, rfl⟩
  have hW : zW D (zT cI cJ cZ cP cS cM) L (zQ L sz) st f st.heap H locs := by rw [eH, eL]; exact hW
  suffices hgo : W pg l en ({ frames := 0, cells := 0, slots := 0, locals := 0 } : Room) st mi ag bl mt cd H locs 0 0 Q (F0 mi 0 ls []) by rw [eH, eL] at hgo; exact hgo
  clear eH eL
  have hxy := hD.2.2.2.2.2
  refine lv_aload_n hX0 hB0 dX4_swap_0 rfl (lv_at hl 0 rfl) ?_
  refine z_get (Cn := RX4) (T := TX4) (N := 6) CX hW (v := .ref x) hD.1 rfl (fun w h => List.mem_cons_of_mem _ (List.mem_append_right _ h)) 3 (by decide) (List.mem_of_getElem? (i := 1) rfl) rfl rfl dX4_swap_1 ?_
  refine lv_astore_n (lv' := [(1, .ref x), (0, .ref r)]) hX0 hB0 dX4_swap_4 rfl hl (by decide) rfl (fun ls hl => ?_)
  refine lv_aload_n hX0 hB0 dX4_swap_5 rfl (lv_at hl 1 rfl) ?_
  refine lv_aload_n hX0 hB0 dX4_swap_6 rfl (lv_at hl 1 rfl) ?_
  refine z_get (Cn := RX4) (T := TX4) (N := 6) CX hW (v := .ref y) hD.1 rfl (fun w h => List.mem_cons_of_mem _ (List.mem_append_right _ h)) 4 (by decide) (List.mem_of_getElem? (i := 2) rfl) rfl rfl dX4_swap_7 ?_
  refine z_put (Cn := RX4) (T := TX4) (N := 6) CX hW (v := .ref y) hD.1 rfl (fun w h => List.mem_cons_of_mem _ (List.mem_append_right _ h)) tyX4 tyX4_ok nmX4 3 (by decide) (List.mem_of_getElem? (i := 1) rfl) rfl rfl rfl rfl (Nat.le_of_ble_eq_true rfl) (g := va_up f r (.inr (4, [.ref (r + 1), .ref (r + 2), .int (zI sn), .ref y, .ref y, .int (zI p)]))) rfl dX4_swap_10 (fun H locs hW => ?_)
  refine lv_aload_n hX0 hB0 dX4_swap_13 rfl (lv_at hl 1 rfl) ?_
  refine lv_aload_n hX0 hB0 dX4_swap_14 rfl (lv_at hl 0 rfl) ?_
  refine z_put (Cn := RX4) (T := TX4) (N := 6) CX hW (v := .ref x) (va_up_self _ _ _) rfl (fun w h => List.mem_cons_of_mem _ (List.mem_append_right _ h)) tyX4 tyX4_ok nmX4 4 (by decide) (List.mem_of_getElem? (i := 2) rfl) rfl rfl rfl rfl (Nat.le_of_ble_eq_true rfl) (g := va_up f r (.inr (4, [.ref (r + 1), .ref (r + 2), .int (zI sn), .ref y, .ref x, .int (zI p)]))) va_up_up dX4_swap_15 (fun H locs hW => ?_)
  rw [← hQ]
  exact z_vret CX hW (by rfl) dX4_swap_18
set_option maxRecDepth 100000 in
set_option maxHeartbeats 4000000 in
/-- Reduction.cut -/
theorem c_cut (l : Launch) {D : va_G} {cI cJ cZ cP cS cM : ClassId} {L : List Nat} {sz : Nat} {f : Nat → va_E} (r x y : Nat) (sn p : Int) (o ki F G : Nat → Int) (hD : zRd cI f r x y sn p o ki F G) (hF : zcan 31 F) (hG : zcan 31 G) (hp : 2 ≤ p ∧ p ≤ 31) : zMv l yX4_cut wsX4_cut 1 22 D (zT cI cJ cZ cP cS cM) L sz f [.ref r] (fun g => g = va_up f y (zA cI 289 (zcut F G p))) := by
  refine zWalk.met (nL := 9) (ret := none) (cc := cX4_cut) (by decide) rfl (Nat.le_of_ble_eq_true rfl) ?_
  intro pg en st mi ag bl mt cd ls CX hW hl
  have CX : zC pg st mi ag mt cd cX4_cut 9 none RX4 wsX4_cut := CX
  generalize hQ : MQ bl _ ag st 0 0 _ = Q
  have hX0 := CX.1
  have hB0 := CX.2.1
  have hl : lv_has ls 9 [(0, .ref r)] := hl
  obtain ⟨H, eH⟩ : ∃ H, H = st.heap := ⟨_, rfl⟩
  obtain ⟨locs, eL⟩ : ∃ L : List Loc, L = [] := ⟨_, rfl⟩
  have hW : zW D (zT cI cJ cZ cP cS cM) L (zQ L sz) st f st.heap H locs := by rw [eH, eL]; exact hW
  suffices hgo : W pg l en ({ frames := 1, cells := 0, slots := 0, locals := 22 } : Room) st mi ag bl mt cd H locs 0 0 Q (F0 mi 0 ls []) by rw [eH, eL] at hgo; exact hgo
  clear eH eL
  have hxy := hD.2.2.2.2.2
  refine lv_aload_n hX0 hB0 dX4_cut_0 rfl (lv_at hl 0 rfl) ?_
  refine z_get (Cn := RX4) (T := TX4) (N := 6) CX hW (v := .ref x) hD.1 rfl (fun w h => List.mem_cons_of_mem _ (List.mem_append_right _ h)) 3 (by decide) (List.mem_of_getElem? (i := 1) rfl) rfl rfl dX4_cut_1 ?_
  refine z_calli hW (va_runS (As := [.ref x]) (rest := []) CX.fix (c_greatestPure l (f := f) x F hD.2.2.2.1 (by assumption)) (va_cwS 1 CX.fix.2.2.2.2 gX4_cut_X4_greatestPure rfl rfl rfl (by decide +kernel) ⟨Nat.le_of_ble_eq_true rfl, Nat.le_of_ble_eq_true rfl⟩) (z_preS CX hW) rfl rfl hl.1 rfl (lv_room (Nat.le_of_ble_eq_true rfl)) dX4_cut_4 ⟨Nat.zero_le _, Nat.zero_le _⟩) (fun zv gn H locs hok4 hW => ?_)
  obtain ⟨ez, eg⟩ := hok4
  have eg : gn = f := eg
  rw [eg] at hW
  clear eg
  have ez : zv = zgrt F := ez
  rw [ez]
  clear ez
  have hzgrt4 := zgrt_rng F
  refine lv_istore_n (lv' := [(1, .int (zI (zgrt F))), (0, .ref r)]) hX0 hB0 dX4_cut_7 rfl hl (by decide) rfl (fun ls hl => ?_)
  refine lv_aload_n hX0 hB0 dX4_cut_8 rfl (lv_at hl 1 rfl) ?_
  refine z_get (Cn := RX4) (T := TX4) (N := 6) CX hW (v := .ref y) hD.1 rfl (fun w h => List.mem_cons_of_mem _ (List.mem_append_right _ h)) 4 (by decide) (List.mem_of_getElem? (i := 2) rfl) rfl rfl dX4_cut_9 ?_
  refine z_calli hW (va_runS (As := [.ref y]) (rest := []) CX.fix (c_greatestPure l (f := f) y G hD.2.2.2.2.1 (by assumption)) (va_cwS 1 CX.fix.2.2.2.2 gX4_cut_X4_greatestPure rfl rfl rfl (by decide +kernel) ⟨Nat.le_of_ble_eq_true rfl, Nat.le_of_ble_eq_true rfl⟩) (z_preS CX hW) rfl rfl hl.1 rfl (lv_room (Nat.le_of_ble_eq_true rfl)) dX4_cut_12 ⟨Nat.zero_le _, Nat.zero_le _⟩) (fun zv gn H locs hok12 hW => ?_)
  obtain ⟨ez, eg⟩ := hok12
  have eg : gn = f := eg
  rw [eg] at hW
  clear eg
  have ez : zv = zgrt G := ez
  rw [ez]
  clear ez
  have hzgrt12 := zgrt_rng G
  refine lv_istore_n (lv' := [(2, .int (zI (zgrt G))), (1, .int (zI (zgrt F))), (0, .ref r)]) hX0 hB0 dX4_cut_15 rfl hl (by decide) rfl (fun ls hl => ?_)
  refine lv_aload_n hX0 hB0 dX4_cut_16 rfl (lv_at hl 2 rfl) ?_
  refine z_get (Cn := RX4) (T := TX4) (N := 6) CX hW (v := .int (zI p)) hD.1 rfl (fun w h => List.mem_cons_of_mem _ (List.mem_append_right _ h)) 5 (by decide) (List.mem_of_getElem? (i := 3) rfl) rfl rfl dX4_cut_17 ?_
  refine lv_iconst (v := zI 2) hX0 hB0 dX4_cut_20 rfl ?_
  refine z_icmp_lt (tgt := 33) CX dX4_cut_21 (by decide) (by constructor <;> omega) (by constructor <;> omega) (fun c_21 => ?_) (fun c_21 => ?_)
  ·
    omega
  ·
    refine lv_iload_n hX0 hB0 dX4_cut_24 rfl (lv_at hl 1 rfl) ?_
    refine z_if_lt (tgt := 33) CX dX4_cut_25 (by decide) (by constructor <;> omega) (fun c_25 => ?_) (fun c_25 => ?_)
    ·
      rw [← hQ]
      exact z_vret CX hW (by unfold zcut; rw [if_pos (by omega)]; exact (va_up_id hD.2.2.2.2.1).symm) dX4_cut_33
    ·
      refine lv_iload_n hX0 hB0 dX4_cut_28 rfl (lv_at hl 0 rfl) ?_
      refine lv_iload_n hX0 hB0 dX4_cut_29 rfl (lv_at hl 1 rfl) ?_
      refine z_icmp_ge (tgt := 34) CX dX4_cut_30 (by decide) (by constructor <;> omega) (by constructor <;> omega) (fun c_30 => ?_) (fun c_30 => ?_)
      ·
        refine lv_iload_n hX0 hB0 dX4_cut_34 rfl (lv_at hl 0 rfl) ?_
        refine lv_iload_n hX0 hB0 dX4_cut_35 rfl (lv_at hl 1 rfl) ?_
        refine z_isub (z := (zgrt G) - (zgrt F)) CX dX4_cut_36 rfl ?_
        refine lv_istore_n (lv' := [(3, .int (zI ((zgrt G) - (zgrt F)))), (2, .int (zI (zgrt G))), (1, .int (zI (zgrt F))), (0, .ref r)]) hX0 hB0 dX4_cut_37 rfl hl (by decide) rfl (fun ls hl => ?_)
        refine lv_aload_n hX0 hB0 dX4_cut_38 rfl (lv_at hl 3 rfl) ?_
        refine z_get (Cn := RX4) (T := TX4) (N := 6) CX hW (v := .ref y) hD.1 rfl (fun w h => List.mem_cons_of_mem _ (List.mem_append_right _ h)) 4 (by decide) (List.mem_of_getElem? (i := 2) rfl) rfl rfl dX4_cut_39 ?_
        refine lv_iload_n hX0 hB0 dX4_cut_42 rfl (lv_at hl 1 rfl) ?_
        refine lv_bipush (v := zI 17) hX0 hB0 dX4_cut_43 (by decide) ?_
        refine z_imul (z := (zgrt G) * 17) CX dX4_cut_45 rfl ?_
        refine z_iald (z := G (((zgrt G) * 17).toNat)) CX hW hD.2.2.2.2.1 0 rfl (by refine ⟨?_, ?_, ?_⟩ <;> omega) rfl dX4_cut_46 ?_
        have hr1 := hG (((zgrt G) * 17).toNat)
        refine lv_aload_n hX0 hB0 dX4_cut_47 rfl (lv_at hl 3 rfl) ?_
        refine z_get (Cn := RX4) (T := TX4) (N := 6) CX hW (v := .ref x) hD.1 rfl (fun w h => List.mem_cons_of_mem _ (List.mem_append_right _ h)) 3 (by decide) (List.mem_of_getElem? (i := 1) rfl) rfl rfl dX4_cut_48 ?_
        refine lv_iload_n hX0 hB0 dX4_cut_51 rfl (lv_at hl 2 rfl) ?_
        refine lv_bipush (v := zI 17) hX0 hB0 dX4_cut_52 (by decide) ?_
        refine z_imul (z := (zgrt F) * 17) CX dX4_cut_54 rfl ?_
        refine z_iald (z := F (((zgrt F) * 17).toNat)) CX hW hD.2.2.2.1 0 rfl (by refine ⟨?_, ?_, ?_⟩ <;> omega) rfl dX4_cut_55 ?_
        have hr2 := hF (((zgrt F) * 17).toNat)
        refine lv_aload_n hX0 hB0 dX4_cut_56 rfl (lv_at hl 3 rfl) ?_
        refine z_get (Cn := RX4) (T := TX4) (N := 6) CX hW (v := .int (zI p)) hD.1 rfl (fun w h => List.mem_cons_of_mem _ (List.mem_append_right _ h)) 5 (by decide) (List.mem_of_getElem? (i := 3) rfl) rfl rfl dX4_cut_57 ?_
        refine z_calli hW (va_runSN (As := [.int (zI (F (((zgrt F) * 17).toNat))), .int (zI p)]) (rest := [.int (zI (G (((zgrt G) * 17).toNat)))]) CX.fix (c_inverse l (f := f) (F (((zgrt F) * 17).toNat)) p (by constructor <;> omega) (by constructor <;> omega)) ⟨va_cnB (own := RX4) (host := "CurveMeets") (index := 66) 2 CX.fix.2.2.2.2 ggX4_cut_X11_inverse rfl rfl rfl (CX.2.2.2.2.2.2.2.1 _ (by decide +kernel)) (CX.at (List.mem_of_getElem? (i := 9) rfl)) (by decide +kernel) ⟨Nat.le_of_ble_eq_true rfl, Nat.le_of_ble_eq_true rfl⟩, CX.at (List.mem_of_getElem? (i := 8) rfl), trivial⟩ (z_preS CX hW) rfl rfl hl.1 rfl (lv_room (Nat.le_of_ble_eq_true rfl)) dX4_cut_60 ⟨Nat.zero_le _, Nat.zero_le _⟩) (fun zv gn H locs hok60 hW => ?_)
        obtain ⟨ez, eg⟩ := hok60
        have eg : gn = f := eg
        rw [eg] at hW
        clear eg
        have ez : zv = zinv (F (((zgrt F) * 17).toNat)) p := ez
        rw [ez]
        clear ez
        have hinv60 := zinv_rng (F (((zgrt F) * 17).toNat)) (p := p) (by omega)
        have hmg := zmul_rng (a := G (zgrt G * 17).toNat) (b := zinv (F (zgrt F * 17).toNat) p) (A := 31) (B := 31) (by omega) (by omega)
        refine z_imul (z := (G (((zgrt G) * 17).toNat)) * (zinv (F (((zgrt F) * 17).toNat)) p)) CX dX4_cut_63 rfl ?_
        refine lv_aload_n hX0 hB0 dX4_cut_64 rfl (lv_at hl 3 rfl) ?_
        refine z_get (Cn := RX4) (T := TX4) (N := 6) CX hW (v := .int (zI p)) hD.1 rfl (fun w h => List.mem_cons_of_mem _ (List.mem_append_right _ h)) 5 (by decide) (List.mem_of_getElem? (i := 3) rfl) rfl rfl dX4_cut_65 ?_
        refine z_calli hW (va_runSN (As := [.int (zI ((G (((zgrt G) * 17).toNat)) * (zinv (F (((zgrt F) * 17).toNat)) p))), .int (zI p)]) (rest := []) CX.fix (c_mod l (f := f) ((G (((zgrt G) * 17).toNat)) * (zinv (F (((zgrt F) * 17).toNat)) p)) p (by constructor <;> omega) (by constructor <;> omega)) ⟨va_cnB (own := RX4) (host := "CurveMeets") (index := 69) 2 CX.fix.2.2.2.2 ggX4_cut_X11_mod rfl rfl rfl (CX.2.2.2.2.2.2.2.1 _ (by decide +kernel)) (CX.at (List.mem_of_getElem? (i := 9) rfl)) (by decide +kernel) ⟨Nat.le_of_ble_eq_true rfl, Nat.le_of_ble_eq_true rfl⟩, CX.at (List.mem_of_getElem? (i := 11) rfl), trivial⟩ (z_preS CX hW) rfl rfl hl.1 rfl (lv_room (Nat.le_of_ble_eq_true rfl)) dX4_cut_68 ⟨Nat.zero_le _, Nat.zero_le _⟩) (fun zv gn H locs hok68 hW => ?_)
        obtain ⟨ez, eg⟩ := hok68
        have eg : gn = f := eg
        rw [eg] at hW
        clear eg
        have ez : zv = ((G (((zgrt G) * 17).toNat)) * (zinv (F (((zgrt F) * 17).toNat)) p)) % p := ez
        rw [ez]
        clear ez
        have hm68 := zmr ((G (((zgrt G) * 17).toNat)) * (zinv (F (((zgrt F) * 17).toNat)) p)) (p := p) (by omega)
        refine lv_istore (lv' := [(4, .int (zI (((G (((zgrt G) * 17).toNat)) * (zinv (F (((zgrt F) * 17).toNat)) p)) % p))), (3, .int (zI ((zgrt G) - (zgrt F)))), (2, .int (zI (zgrt G))), (1, .int (zI (zgrt F))), (0, .ref r)]) hX0 hB0 dX4_cut_71 hl (by decide) rfl (fun ls hl => ?_)
        refine lv_aload_n hX0 hB0 dX4_cut_73 rfl (lv_at hl 4 rfl) ?_
        refine z_get (Cn := RX4) (T := TX4) (N := 6) CX hW (v := .int (zI p)) hD.1 rfl (fun w h => List.mem_cons_of_mem _ (List.mem_append_right _ h)) 5 (by decide) (List.mem_of_getElem? (i := 3) rfl) rfl rfl dX4_cut_74 ?_
        refine lv_iload hX0 hB0 dX4_cut_77 (lv_at hl 0 rfl) ?_
        refine z_isub (z := p - (((G (((zgrt G) * 17).toNat)) * (zinv (F (((zgrt F) * 17).toNat)) p)) % p)) CX dX4_cut_79 rfl ?_
        refine lv_istore (lv' := [(5, .int (zI (p - (((G (((zgrt G) * 17).toNat)) * (zinv (F (((zgrt F) * 17).toNat)) p)) % p)))), (4, .int (zI (((G (((zgrt G) * 17).toNat)) * (zinv (F (((zgrt F) * 17).toNat)) p)) % p))), (3, .int (zI ((zgrt G) - (zgrt F)))), (2, .int (zI (zgrt G))), (1, .int (zI (zgrt F))), (0, .ref r)]) hX0 hB0 dX4_cut_80 hl (by decide) rfl (fun ls hl => ?_)
        refine lv_iload_n hX0 hB0 dX4_cut_82 rfl (lv_at hl 2 rfl) ?_
        refine lv_istore (lv' := [(6, .int (zI ((zgrt G) - (zgrt F)))), (5, .int (zI (p - (((G (((zgrt G) * 17).toNat)) * (zinv (F (((zgrt F) * 17).toNat)) p)) % p)))), (4, .int (zI (((G (((zgrt G) * 17).toNat)) * (zinv (F (((zgrt F) * 17).toNat)) p)) % p))), (3, .int (zI ((zgrt G) - (zgrt F)))), (2, .int (zI (zgrt G))), (1, .int (zI (zgrt F))), (0, .ref r)]) hX0 hB0 dX4_cut_83 hl (by decide) rfl (fun ls hl => ?_)
        have hL85 : ∀ (fu : Nat) (i : Int) (co : Nat → Int) (rt : Int) (mn : Int), (rt ≤ i ∧ (i ≤ 17 ∨ i = rt) ∧ co = zfor (zcut_out F p rt mn) rt G (i - rt).toNat ∧ rt = zgrt G - zgrt F ∧ mn = zcutm F G p ∧ 0 ≤ zgrt F ∧ 0 ≤ rt ∧ rt ≤ 16 ∧ 0 ≤ mn ∧ mn ≤ 31 ∧ zcan 31 co) → (17 - i).toNat < fu → ∀ (H : Heap) (locs : List Loc) (ls : Array Slot), zW D (zT cI cJ cZ cP cS cM) L (zQ L sz) st (va_up f y (zA cI 289 co)) st.heap H locs → lv_has ls 9 [(6, .int (zI i)), (3, .int (zI rt)), (5, .int (zI mn)), (0, .ref r)] → W pg l en ({ frames := 1, cells := 0, slots := 0, locals := 22 } : Room) st mi ag bl mt cd H locs 0 0 Q (F0 mi 85 ls []) := by
          intro fu
          induction fu with
          | zero => intro i co rt mn _ hfu; exact absurd hfu (Nat.not_lt_zero _)
          | succ fu ih85 =>
            intro i co rt mn hinv85 hfu85 H locs ls hW hl
            obtain ⟨hi0, hi1, heco, ert, emn, hg0, hrt0, hrt1, hmn0, hmn1, hco⟩ := hinv85
            refine lv_iload hX0 hB0 dX4_cut_85 (lv_at hl 0 rfl) ?_
            refine lv_bipush (v := zI 16) hX0 hB0 dX4_cut_87 (by decide) ?_
            refine z_icmp_gt (tgt := 176) CX dX4_cut_89 (by decide) (by constructor <;> omega) (by constructor <;> omega) (fun c_89 => ?_) (fun c_89 => ?_)
            ·
              rw [← hQ]
              exact z_vret CX hW (by unfold zcut; rw [if_neg (by omega), heco, ← ert, ← emn, show (i - rt).toNat = (17 - rt).toNat by omega]) dX4_cut_176
            ·
              refine lv_iconst (v := zI 0) hX0 hB0 dX4_cut_92 rfl ?_
              refine lv_istore (lv' := [(7, .int (zI 0)), (6, .int (zI i)), (3, .int (zI rt)), (5, .int (zI mn)), (0, .ref r)]) hX0 hB0 dX4_cut_93 hl (by decide) rfl (fun ls hl => ?_)
              have hL95 : ∀ (fu : Nat) (j : Int) (ce : Nat → Int), (0 ≤ j ∧ (j ≤ 16 - i + 1 ∨ j = 0) ∧ ce = zfor (zcut_in F p rt mn i) 0 co (j - 0).toNat ∧ zcan 31 ce) → (16 - i + 1 - j).toNat < fu → ∀ (H : Heap) (locs : List Loc) (ls : Array Slot), zW D (zT cI cJ cZ cP cS cM) L (zQ L sz) st (va_up f y (zA cI 289 ce)) st.heap H locs → lv_has ls 9 [(7, .int (zI j)), (6, .int (zI i)), (3, .int (zI rt)), (5, .int (zI mn)), (0, .ref r)] → W pg l en ({ frames := 1, cells := 0, slots := 0, locals := 22 } : Room) st mi ag bl mt cd H locs 0 0 Q (F0 mi 95 ls []) := by
                intro fu
                induction fu with
                | zero => intro j ce _ hfu; exact absurd hfu (Nat.not_lt_zero _)
                | succ fu ih95 =>
                  intro j ce hinv95 hfu95 H locs ls hW hl
                  obtain ⟨hj0, hj1, hece, hce⟩ := hinv95
                  refine lv_iload hX0 hB0 dX4_cut_95 (lv_at hl 0 rfl) ?_
                  refine lv_bipush (v := zI 16) hX0 hB0 dX4_cut_97 (by decide) ?_
                  refine lv_iload hX0 hB0 dX4_cut_99 (lv_at hl 1 rfl) ?_
                  refine z_isub (z := 16 - i) CX dX4_cut_101 rfl ?_
                  refine z_icmp_gt (tgt := 170) CX dX4_cut_102 (by decide) (by constructor <;> omega) (by constructor <;> omega) (fun c_102 => ?_) (fun c_102 => ?_)
                  ·
                    refine lv_iinc (v := zI (i + 1)) (lv' := [(6, .int (zI (i + 1))), (7, .int (zI j)), (3, .int (zI rt)), (5, .int (zI mn)), (0, .ref r)]) hX0 hB0 dX4_cut_170 hl (k := 1) rfl (zI_add _ _) (by decide) rfl (fun ls hl => ?_)
                    refine lv_goto (tgt := 85) hX0 hB0 dX4_cut_173 (by decide) ?_
                    exact ih85 (i + 1) ce rt mn ⟨by omega, by omega, by rw [zfor_s _ _ _ hi0, ← heco]; rw [hece]; show zfor _ 0 co _ = zfor _ 0 co _; congr 1; omega, ert, emn, hg0, hrt0, hrt1, hmn0, hmn1, hce⟩ (by omega) H locs ls hW (lv_sub hl [0, 2, 3, 4] rfl)
                  ·
                    refine lv_aload_n hX0 hB0 dX4_cut_105 rfl (lv_at hl 4 rfl) ?_
                    refine z_get (Cn := RX4) (T := TX4) (N := 6) CX hW (v := .ref x) ((va_up_ne _ _ (by omega)).trans hD.1) rfl (fun w h => List.mem_cons_of_mem _ (List.mem_append_right _ h)) 3 (by decide) (List.mem_of_getElem? (i := 1) rfl) rfl rfl dX4_cut_106 ?_
                    refine lv_iload hX0 hB0 dX4_cut_109 (lv_at hl 1 rfl) ?_
                    refine lv_iload_n hX0 hB0 dX4_cut_111 rfl (lv_at hl 2 rfl) ?_
                    refine z_isub (z := i - rt) CX dX4_cut_112 rfl ?_
                    refine lv_bipush (v := zI 17) hX0 hB0 dX4_cut_113 (by decide) ?_
                    refine z_imul (z := (i - rt) * 17) CX dX4_cut_115 rfl ?_
                    refine lv_iload hX0 hB0 dX4_cut_116 (lv_at hl 0 rfl) ?_
                    refine z_iadd (z := ((i - rt) * 17) + j) CX dX4_cut_118 rfl ?_
                    refine z_iald (z := F ((((i - rt) * 17) + j).toNat)) CX hW ((va_up_ne _ _ (by omega)).trans hD.2.2.2.1) 0 rfl (by refine ⟨?_, ?_, ?_⟩ <;> omega) rfl dX4_cut_119 ?_
                    have hr3 := hF ((((i - rt) * 17) + j).toNat)
                    refine lv_istore (lv' := [(8, .int (zI (F ((((i - rt) * 17) + j).toNat)))), (7, .int (zI j)), (6, .int (zI i)), (3, .int (zI rt)), (5, .int (zI mn)), (0, .ref r)]) hX0 hB0 dX4_cut_120 hl (by decide) rfl (fun ls hl => ?_)
                    have hFn := hF ((i - rt) * 17 + j).toNat
                    refine lv_iload hX0 hB0 dX4_cut_122 (lv_at hl 0 rfl) ?_
                    refine z_if_eq (tgt := 164) CX dX4_cut_124 (by decide) (by constructor <;> omega) (fun c_124 => ?_) (fun c_124 => ?_)
                    ·
                      refine lv_iinc (v := zI (j + 1)) (lv' := [(7, .int (zI (j + 1))), (8, .int (zI (F ((((i - rt) * 17) + j).toNat)))), (6, .int (zI i)), (3, .int (zI rt)), (5, .int (zI mn)), (0, .ref r)]) hX0 hB0 dX4_cut_164 hl (k := 1) rfl (zI_add _ _) (by decide) rfl (fun ls hl => ?_)
                      refine lv_goto (tgt := 95) hX0 hB0 dX4_cut_167 (by decide) ?_
                      exact ih95 (j + 1) ce ⟨by omega, by omega, by rw [zfor_s _ _ _ hj0, ← hece]; first | exact (if_neg (fun h => h c_124)).symm | exact (if_pos c_124).symm, by first | exact hce | exact zcan_up hce _ (by omega)⟩ (by omega) H locs ls hW (lv_sub hl [0, 2, 3, 4, 5] rfl)
                    ·
                      refine lv_aload_n hX0 hB0 dX4_cut_127 rfl (lv_at hl 5 rfl) ?_
                      refine z_get (Cn := RX4) (T := TX4) (N := 6) CX hW (v := .ref y) ((va_up_ne _ _ (by omega)).trans hD.1) rfl (fun w h => List.mem_cons_of_mem _ (List.mem_append_right _ h)) 4 (by decide) (List.mem_of_getElem? (i := 2) rfl) rfl rfl dX4_cut_128 ?_
                      refine lv_iload hX0 hB0 dX4_cut_131 (lv_at hl 2 rfl) ?_
                      refine lv_bipush (v := zI 17) hX0 hB0 dX4_cut_133 (by decide) ?_
                      refine z_imul (z := i * 17) CX dX4_cut_135 rfl ?_
                      refine lv_iload hX0 hB0 dX4_cut_136 (lv_at hl 1 rfl) ?_
                      refine z_iadd (z := (i * 17) + j) CX dX4_cut_138 rfl ?_
                      refine lv_aload_n hX0 hB0 dX4_cut_139 rfl (lv_at hl 5 rfl) ?_
                      refine z_get (Cn := RX4) (T := TX4) (N := 6) CX hW (v := .ref y) ((va_up_ne _ _ (by omega)).trans hD.1) rfl (fun w h => List.mem_cons_of_mem _ (List.mem_append_right _ h)) 4 (by decide) (List.mem_of_getElem? (i := 2) rfl) rfl rfl dX4_cut_140 ?_
                      refine lv_iload hX0 hB0 dX4_cut_143 (lv_at hl 2 rfl) ?_
                      refine lv_bipush (v := zI 17) hX0 hB0 dX4_cut_145 (by decide) ?_
                      refine z_imul (z := i * 17) CX dX4_cut_147 rfl ?_
                      refine lv_iload hX0 hB0 dX4_cut_148 (lv_at hl 1 rfl) ?_
                      refine z_iadd (z := (i * 17) + j) CX dX4_cut_150 rfl ?_
                      refine z_iald (z := ce (((i * 17) + j).toNat)) CX hW (va_up_self _ _ _) 0 rfl (by refine ⟨?_, ?_, ?_⟩ <;> omega) rfl dX4_cut_151 ?_
                      have hr4 := hce (((i * 17) + j).toNat)
                      refine lv_iload hX0 hB0 dX4_cut_152 (lv_at hl 4 rfl) ?_
                      have hcn := hce (i * 17 + j).toNat
                      have hmf := zmul_rng (a := mn) (b := F ((i - rt) * 17 + j).toNat) (A := 31) (B := 31) (by omega) (by omega)
                      have hmm := zmr (ce (i * 17 + j).toNat + mn * F ((i - rt) * 17 + j).toNat) (p := p) (by omega)
                      refine lv_iload hX0 hB0 dX4_cut_154 (lv_at hl 0 rfl) ?_
                      refine z_imul (z := mn * (F ((((i - rt) * 17) + j).toNat))) CX dX4_cut_156 rfl ?_
                      refine z_iadd (z := (ce (((i * 17) + j).toNat)) + (mn * (F ((((i - rt) * 17) + j).toNat)))) CX dX4_cut_157 rfl ?_
                      refine lv_aload_n hX0 hB0 dX4_cut_158 rfl (lv_at hl 5 rfl) ?_
                      refine z_get (Cn := RX4) (T := TX4) (N := 6) CX hW (v := .int (zI p)) ((va_up_ne _ _ (by omega)).trans hD.1) rfl (fun w h => List.mem_cons_of_mem _ (List.mem_append_right _ h)) 5 (by decide) (List.mem_of_getElem? (i := 3) rfl) rfl rfl dX4_cut_159 ?_
                      refine z_irem (z := (ce (i * 17 + j).toNat + mn * F ((i - rt) * 17 + j).toNat) % p) CX dX4_cut_162 (by constructor <;> omega) (by constructor <;> omega) (Int.tmod_eq_emod_of_nonneg (by omega)) ?_
                      refine z_iast CX hW (va_up_self _ _ _) 0 rfl (by refine ⟨?_, ?_, ?_⟩ <;> omega) (g := va_up f y (zA cI 289 (zup ce (((i * 17) + j).toNat) ((ce (i * 17 + j).toNat + mn * F ((i - rt) * 17 + j).toNat) % p)))) va_up_up dX4_cut_163 (fun H locs hW => ?_)
                      refine lv_iinc (v := zI (j + 1)) (lv' := [(7, .int (zI (j + 1))), (8, .int (zI (F ((((i - rt) * 17) + j).toNat)))), (6, .int (zI i)), (3, .int (zI rt)), (5, .int (zI mn)), (0, .ref r)]) hX0 hB0 dX4_cut_164 hl (k := 1) rfl (zI_add _ _) (by decide) rfl (fun ls hl => ?_)
                      refine lv_goto (tgt := 95) hX0 hB0 dX4_cut_167 (by decide) ?_
                      exact ih95 (j + 1) (zup ce (((i * 17) + j).toNat) ((ce (i * 17 + j).toNat + mn * F ((i - rt) * 17 + j).toNat) % p)) ⟨by omega, by omega, by rw [zfor_s _ _ _ hj0, ← hece]; first | exact (if_neg (fun h => h c_124)).symm | exact (if_pos c_124).symm, by first | exact hce | exact zcan_up hce _ (by omega)⟩ (by omega) H locs ls hW (lv_sub hl [0, 2, 3, 4, 5] rfl)
              exact hL95 _ 0 co ⟨by omega, Or.inr rfl, (zfor_0 _ _ _).symm, hco⟩ (Nat.lt_succ_self _) H locs ls hW (lv_sub hl [0, 1, 2, 3, 4] rfl)
        have hW := hW
        rw [show f = va_up f y (zA cI 289 G) from by rw [va_up_id (a := y) hD.2.2.2.2.1]] at hW
        exact hL85 _ ((zgrt G) - (zgrt F)) G ((zgrt G) - (zgrt F)) (p - (((G (((zgrt G) * 17).toNat)) * (zinv (F (((zgrt F) * 17).toNat)) p)) % p)) ⟨by omega, Or.inr rfl, (zfor_0 _ _ _).symm, rfl, rfl, by omega, by omega, by omega, by omega, by omega, hG⟩ (Nat.lt_succ_self _) H locs ls hW (lv_sub hl [0, 3, 1, 6] rfl)
      ·
        rw [← hQ]
        exact z_vret CX hW (by unfold zcut; rw [if_pos (by omega)]; exact (va_up_id hD.2.2.2.2.1).symm) dX4_cut_33
set_option maxRecDepth 100000 in
set_option maxHeartbeats 4000000 in
/-- Reduction.kindOf -/
theorem c_kindOf (l : Launch) {D : va_G} {cI cJ cZ cP cS cM : ClassId} {L : List Nat} {sz : Nat} {f : Nat → va_E} (r x y : Nat) (sn p : Int) (o ki F G : Nat → Int) (k : Int) (hD : zRd cI f r x y sn p o ki F G) (hF : zcan 31 F) (hG : zcan 31 G) (hst : 0 ≤ sn ∧ sn ≤ 2049) (hk : -2147483648 ≤ k ∧ k ≤ 2147483647) : zMi l yX4_kindOf wsX4_kindOf 0 0 D (zT cI cJ cZ cP cS cM) L sz f [.ref r, .int (zI k)] (fun z g => z = (if 0 ≤ k ∧ k < sn ∧ k < 2048 then ki k.toNat else -1) ∧ g = f) := by
  refine zWalk.met (nL := 2) (ret := (some .int)) (cc := cX4_kindOf) (by decide) rfl (Nat.le_of_ble_eq_true rfl) ?_
  intro pg en st mi ag bl mt cd ls CX hW hl
  have CX : zC pg st mi ag mt cd cX4_kindOf 2 (some .int) RX4 wsX4_kindOf := CX
  generalize hQ : MQ bl _ ag st 0 0 _ = Q
  have hX0 := CX.1
  have hB0 := CX.2.1
  have hl : lv_has ls 2 [(0, .ref r), (1, .int (zI k))] := hl
  obtain ⟨H, eH⟩ : ∃ H, H = st.heap := ⟨_, rfl⟩
  obtain ⟨locs, eL⟩ : ∃ L : List Loc, L = [] := ⟨_, rfl⟩
  have hW : zW D (zT cI cJ cZ cP cS cM) L (zQ L sz) st f st.heap H locs := by rw [eH, eL]; exact hW
  suffices hgo : W pg l en ({ frames := 0, cells := 0, slots := 0, locals := 0 } : Room) st mi ag bl mt cd H locs 0 0 Q (F0 mi 0 ls []) by rw [eH, eL] at hgo; exact hgo
  clear eH eL
  have hxy := hD.2.2.2.2.2
  refine lv_iload_n hX0 hB0 dX4_kindOf_0 rfl (lv_at hl 1 rfl) ?_
  refine z_if_lt (tgt := 19) CX dX4_kindOf_1 (by decide) (by constructor <;> omega) (fun c_1 => ?_) (fun c_1 => ?_)
  ·
    refine lv_iconst (v := zI (-1)) hX0 hB0 dX4_kindOf_19 rfl ?_
    refine lv_goto (tgt := 29) hX0 hB0 dX4_kindOf_20 (by decide) ?_
    rw [← hQ]
    exact z_iret (z := -1) CX hW (by first | exact ⟨by rw [if_neg (by omega)], rfl⟩ | exact ⟨by rw [if_pos (by omega)], rfl⟩) rfl dX4_kindOf_29
  ·
    refine lv_iload_n hX0 hB0 dX4_kindOf_4 rfl (lv_at hl 1 rfl) ?_
    refine lv_aload_n hX0 hB0 dX4_kindOf_5 rfl (lv_at hl 0 rfl) ?_
    refine z_get (Cn := RX4) (T := TX4) (N := 6) CX hW (v := .int (zI sn)) hD.1 rfl (fun w h => List.mem_cons_of_mem _ (List.mem_append_right _ h)) 2 (by decide) (List.mem_of_getElem? (i := 1) rfl) rfl rfl dX4_kindOf_6 ?_
    refine z_icmp_ge (tgt := 19) CX dX4_kindOf_9 (by decide) (by constructor <;> omega) (by constructor <;> omega) (fun c_9 => ?_) (fun c_9 => ?_)
    ·
      refine lv_iconst (v := zI (-1)) hX0 hB0 dX4_kindOf_19 rfl ?_
      refine lv_goto (tgt := 29) hX0 hB0 dX4_kindOf_20 (by decide) ?_
      rw [← hQ]
      exact z_iret (z := -1) CX hW (by first | exact ⟨by rw [if_neg (by omega)], rfl⟩ | exact ⟨by rw [if_pos (by omega)], rfl⟩) rfl dX4_kindOf_29
    ·
      refine lv_iload_n hX0 hB0 dX4_kindOf_12 rfl (lv_at hl 1 rfl) ?_
      refine lv_sipush (v := zI 2048) hX0 hB0 dX4_kindOf_13 (by decide) ?_
      refine z_icmp_lt (tgt := 23) CX dX4_kindOf_16 (by decide) (by constructor <;> omega) (by constructor <;> omega) (fun c_16 => ?_) (fun c_16 => ?_)
      ·
        refine lv_aload_n hX0 hB0 dX4_kindOf_23 rfl (lv_at hl 0 rfl) ?_
        refine z_get (Cn := RX4) (T := TX4) (N := 6) CX hW (v := .ref (r + 2)) hD.1 rfl (fun w h => List.mem_cons_of_mem _ (List.mem_append_right _ h)) 1 (by decide) (List.mem_of_getElem? (i := 2) rfl) rfl rfl dX4_kindOf_24 ?_
        refine lv_iload_n hX0 hB0 dX4_kindOf_27 rfl (lv_at hl 1 rfl) ?_
        refine z_iald (z := ki k.toNat) CX hW hD.2.2.1 0 rfl (by refine ⟨?_, ?_, ?_⟩ <;> omega) rfl dX4_kindOf_28 ?_
        rw [← hQ]
        exact z_iret (z := ki k.toNat) CX hW (by first | exact ⟨by rw [if_neg (by omega)], rfl⟩ | exact ⟨by rw [if_pos (by omega)], rfl⟩) rfl dX4_kindOf_29
      ·
        refine lv_iconst (v := zI (-1)) hX0 hB0 dX4_kindOf_19 rfl ?_
        refine lv_goto (tgt := 29) hX0 hB0 dX4_kindOf_20 (by decide) ?_
        rw [← hQ]
        exact z_iret (z := -1) CX hW (by first | exact ⟨by rw [if_neg (by omega)], rfl⟩ | exact ⟨by rw [if_pos (by omega)], rfl⟩) rfl dX4_kindOf_29
set_option maxRecDepth 100000 in
set_option maxHeartbeats 4000000 in
/-- Reduction.run -/
theorem c_run (l : Launch) {D : va_G} {cI cJ cZ cP cS cM : ClassId} {L : List Nat} {sz : Nat} {f : Nat → va_E} (r x y : Nat) (sn p0 : Int) (o ki F G : Nat → Int) (h0 h : Nat) (d : Nat → Int) (h1 ha : Nat) (e : Nat → Int) (p : Int) (hD : zRd cI f r x y sn p0 o ki F G) (hF : zcan 31 F) (hG : zcan 31 G) (hf0 : f h0 = .inr (2, [.ref h])) (hf1 : f h = zA cI 25 d) (hd : zcan 31 d) (hg0 : f h1 = .inr (2, [.ref ha])) (hg1 : f ha = zA cI 25 e) (he : zcan 31 e) (hh0 : h0 < r ∨ r + 5 ≤ h0) (hh1 : h < r ∨ r + 5 ≤ h) (hh2 : h1 < r ∨ r + 5 ≤ h1) (hh3 : ha < r ∨ r + 5 ≤ ha) (hp : 2 ≤ p ∧ p ≤ 31) : zMi l yX4_run wsX4_run 3 66 D (zT cI cJ cZ cP cS cM) L sz f [.ref r, .ref h0, .ref h1, .int (zI p)] (fun z g => z = (zrunA p d e ki).1 ∧ zFr f g r (r + 5) ∧ ∃ x1 y1, zRd cI g r x1 y1 (zrunA p d e ki).2.1 p (zrunA p d e ki).2.2.2.2.1 (zrunA p d e ki).2.2.2.2.2 (zrunA p d e ki).2.2.1 (zrunA p d e ki).2.2.2.1 ∧ zcan 31 (zrunA p d e ki).2.2.1 ∧ zcan 31 (zrunA p d e ki).2.2.2.1) := by
  refine zWalk.met (nL := 6) (ret := (some .int)) (cc := cX4_run) (by decide) rfl (Nat.le_of_ble_eq_true rfl) ?_
  intro pg en st mi ag bl mt cd ls CX hW hl
  have CX : zC pg st mi ag mt cd cX4_run 6 (some .int) RX4 wsX4_run := CX
  generalize hQ : MQ bl _ ag st 0 0 _ = Q
  have hX0 := CX.1
  have hB0 := CX.2.1
  have hl : lv_has ls 6 [(0, .ref r), (1, .ref h0), (2, .ref h1), (3, .int (zI p))] := hl
  obtain ⟨H, eH⟩ : ∃ H, H = st.heap := ⟨_, rfl⟩
  obtain ⟨locs, eL⟩ : ∃ L : List Loc, L = [] := ⟨_, rfl⟩
  have hW : zW D (zT cI cJ cZ cP cS cM) L (zQ L sz) st f st.heap H locs := by rw [eH, eL]; exact hW
  suffices hgo : W pg l en ({ frames := 3, cells := 0, slots := 0, locals := 66 } : Room) st mi ag bl mt cd H locs 0 0 Q (F0 mi 0 ls []) by rw [eH, eL] at hgo; exact hgo
  clear eH eL
  have hxy := hD.2.2.2.2.2
  refine lv_aload_n hX0 hB0 dX4_run_0 rfl (lv_at hl 0 rfl) ?_
  refine lv_iload_n hX0 hB0 dX4_run_1 rfl (lv_at hl 3 rfl) ?_
  refine z_put (Cn := RX4) (T := TX4) (N := 6) CX hW (v := .int (zI p)) hD.1 rfl (fun w h => List.mem_cons_of_mem _ (List.mem_append_left _ (List.mem_append_right _ h))) tyX4 tyX4_ok nmX4 5 (by decide) (List.mem_of_getElem? (i := 1) rfl) rfl rfl rfl rfl (Nat.le_of_ble_eq_true rfl) (g := va_up f r (.inr (4, [.ref (r + 1), .ref (r + 2), .int (zI sn), .ref x, .ref y, .int (zI p)]))) rfl dX4_run_2 (fun H locs hW => ?_)
  refine lv_aload_n hX0 hB0 dX4_run_5 rfl (lv_at hl 0 rfl) ?_
  refine z_get (Cn := RX4) (T := TX4) (N := 6) CX hW (v := .ref x) (va_up_self _ _ _) rfl (fun w h => List.mem_cons_of_mem _ (List.mem_append_left _ (List.mem_append_right _ h))) 3 (by decide) (List.mem_of_getElem? (i := 2) rfl) rfl rfl dX4_run_6 ?_
  refine lv_aload_n hX0 hB0 dX4_run_9 rfl (lv_at hl 1 rfl) ?_
  refine z_callv hW (va_runS (As := [.ref x, .ref h0]) (rest := []) CX.fix (c_load l (f := va_up f r (.inr (4, [.ref (r + 1), .ref (r + 2), .int (zI sn), .ref x, .ref y, .int (zI p)]))) x F h0 h d ((va_up_ne _ _ (by omega)).trans hD.2.2.2.1) ((va_up_ne _ _ (by omega)).trans hf0) ((va_up_ne _ _ (by omega)).trans hf1) (by assumption) (by omega) (by omega)) (va_cwS 2 CX.fix.2.2.2.2 gX4_run_X4_load rfl rfl rfl (by decide +kernel) ⟨Nat.le_of_ble_eq_true rfl, Nat.le_of_ble_eq_true rfl⟩) (z_preS CX hW) rfl rfl hl.1 rfl (lv_room (Nat.le_of_ble_eq_true rfl)) dX4_run_10 ⟨Nat.zero_le _, Nat.zero_le _⟩) (fun gn H locs hok10 hW => ?_)
  have eg : gn = va_up (va_up f r (.inr (4, [.ref (r + 1), .ref (r + 2), .int (zI sn), .ref x, .ref y, .int (zI p)]))) x (zA cI 289 (zld d)) := hok10
  rw [eg] at hW
  clear eg
  refine lv_aload_n hX0 hB0 dX4_run_13 rfl (lv_at hl 0 rfl) ?_
  refine z_get (Cn := RX4) (T := TX4) (N := 6) CX hW (v := .ref y) ((va_up_ne _ _ (by omega)).trans (va_up_self _ _ _)) rfl (fun w h => List.mem_cons_of_mem _ (List.mem_append_left _ (List.mem_append_right _ h))) 4 (by decide) (List.mem_of_getElem? (i := 3) rfl) rfl rfl dX4_run_14 ?_
  refine lv_aload_n hX0 hB0 dX4_run_17 rfl (lv_at hl 2 rfl) ?_
  refine z_callv hW (va_runS (As := [.ref y, .ref h1]) (rest := []) CX.fix (c_load l (f := va_up (va_up f r (.inr (4, [.ref (r + 1), .ref (r + 2), .int (zI sn), .ref x, .ref y, .int (zI p)]))) x (zA cI 289 (zld d))) y G h1 ha e ((va_up_ne _ _ (by omega)).trans ((va_up_ne _ _ (by omega)).trans hD.2.2.2.2.1)) ((va_up_ne _ _ (by omega)).trans ((va_up_ne _ _ (by omega)).trans hg0)) ((va_up_ne _ _ (by omega)).trans ((va_up_ne _ _ (by omega)).trans hg1)) (by assumption) (by omega) (by omega)) (va_cwS 2 CX.fix.2.2.2.2 gX4_run_X4_load rfl rfl rfl (by decide +kernel) ⟨Nat.le_of_ble_eq_true rfl, Nat.le_of_ble_eq_true rfl⟩) (z_preS CX hW) rfl rfl hl.1 rfl (lv_room (Nat.le_of_ble_eq_true rfl)) dX4_run_18 ⟨Nat.zero_le _, Nat.zero_le _⟩) (fun gn H locs hok18 hW => ?_)
  have eg : gn = va_up (va_up (va_up f r (.inr (4, [.ref (r + 1), .ref (r + 2), .int (zI sn), .ref x, .ref y, .int (zI p)]))) x (zA cI 289 (zld d))) y (zA cI 289 (zld e)) := hok18
  rw [eg] at hW
  clear eg
  refine lv_iconst (v := zI 0) hX0 hB0 dX4_run_21 rfl ?_
  refine lv_istore (lv' := [(4, .int (zI 0)), (0, .ref r), (1, .ref h0), (2, .ref h1), (3, .int (zI p))]) hX0 hB0 dX4_run_22 hl (by decide) rfl (fun ls hl => ?_)
  have hL24 : ∀ (fu : Nat) (k : Int) (oo : Nat → Int), (0 ≤ k ∧ k ≤ 4 ∧ ∀ j : Nat, (j : Int) < k → oo j = 0) → (4 - k).toNat < fu → ∀ (H : Heap) (locs : List Loc) (ls : Array Slot), zW D (zT cI cJ cZ cP cS cM) L (zQ L sz) st (va_up (va_up (va_up (va_up f r (.inr (4, [.ref (r + 1), .ref (r + 2), .int (zI sn), .ref x, .ref y, .int (zI p)]))) x (zA cI 289 (zld d))) y (zA cI 289 (zld e))) (r + 1) (zA cI 4 oo)) st.heap H locs → lv_has ls 6 [(4, .int (zI k)), (0, .ref r), (1, .ref h0), (2, .ref h1), (3, .int (zI p))] → W pg l en ({ frames := 3, cells := 0, slots := 0, locals := 66 } : Room) st mi ag bl mt cd H locs 0 0 Q (F0 mi 24 ls []) := by
    intro fu
    induction fu with
    | zero => intro k oo _ hfu; exact absurd hfu (Nat.not_lt_zero _)
    | succ fu ih24 =>
      intro k oo hinv24 hfu24 H locs ls hW hl
      obtain ⟨hk0, hk1, hok⟩ := hinv24
      refine lv_iload hX0 hB0 dX4_run_24 (lv_at hl 0 rfl) ?_
      refine lv_iconst (v := zI 4) hX0 hB0 dX4_run_26 rfl ?_
      refine z_icmp_ge (tgt := 44) CX dX4_run_27 (by decide) (by constructor <;> omega) (by constructor <;> omega) (fun c_27 => ?_) (fun c_27 => ?_)
      ·
        have hW := hW.same (d := fun _ => 0) (fun j hj => hok j (by omega))
        refine lv_iconst (v := zI 0) hX0 hB0 dX4_run_44 rfl ?_
        refine lv_istore (lv' := [(4, .int (zI 0)), (0, .ref r), (1, .ref h0), (2, .ref h1), (3, .int (zI p))]) hX0 hB0 dX4_run_45 hl (by decide) rfl (fun ls hl => ?_)
        refine lv_aload_n hX0 hB0 dX4_run_47 rfl (lv_at hl 1 rfl) ?_
        refine lv_iconst (v := zI 0) hX0 hB0 dX4_run_48 rfl ?_
        refine z_put (Cn := RX4) (T := TX4) (N := 6) CX hW (v := .int (zI 0)) ((va_up_ne _ _ (by omega)).trans ((va_up_ne _ _ (by omega)).trans ((va_up_ne _ _ (by omega)).trans (va_up_self _ _ _)))) rfl (fun w h => List.mem_cons_of_mem _ (List.mem_append_left _ (List.mem_append_right _ h))) tyX4 tyX4_ok nmX4 2 (by decide) (List.mem_of_getElem? (i := 5) rfl) rfl rfl rfl rfl (Nat.le_of_ble_eq_true rfl) (g := va_up (va_up (va_up (va_up f r (.inr (4, [.ref (r + 1), .ref (r + 2), .int (zI 0), .ref x, .ref y, .int (zI p)]))) x (zA cI 289 (zld d))) y (zA cI 289 (zld e))) (r + 1) (zA cI 4 ((fun _ => 0)))) (by rw [va_up_comm (a := (r + 1)) (b := r) (by omega), va_up_comm (a := y) (b := r) (by omega), va_up_comm (a := x) (b := r) (by omega), va_up_up]; try rfl) dX4_run_49 (fun H locs hW => ?_)
        have hL52 : ∀ (fu : Nat) (k : Int) (sm : Int) (g : Nat → va_E) (x1 : Nat) (y1 : Nat) (o1 : Nat → Int) (k1 : Nat → Int) (F1 : Nat → Int) (G1 : Nat → Int), (zFr f g r (r + 5) ∧ zRd cI g r x1 y1 k p o1 k1 F1 G1 ∧ zcan 31 F1 ∧ zcan 31 G1 ∧ 0 ≤ k ∧ k ≤ 2048 ∧ 0 ≤ sm ∧ sm ≤ 16 * k ∧ (∀ j, 0 ≤ o1 j ∧ o1 j ≤ k) ∧ zrunA p d e ki = zrun p (2048 - k).toNat k F1 G1 o1 k1 sm) → (2048 - k).toNat < fu → ∀ (H : Heap) (locs : List Loc) (ls : Array Slot), zW D (zT cI cJ cZ cP cS cM) L (zQ L sz) st g st.heap H locs → lv_has ls 6 [(4, .int (zI sm)), (0, .ref r), (1, .ref h0), (2, .ref h1), (3, .int (zI p))] → W pg l en ({ frames := 3, cells := 0, slots := 0, locals := 66 } : Room) st mi ag bl mt cd H locs 0 0 Q (F0 mi 52 ls []) := by
          intro fu
          induction fu with
          | zero => intro k sm g x1 y1 o1 k1 F1 G1 _ hfu; exact absurd hfu (Nat.not_lt_zero _)
          | succ fu ih52 =>
            intro k sm g x1 y1 o1 k1 F1 G1 hinv52 hfu52 H locs ls hW hl
            obtain ⟨hfr, hg, hF1, hG1, hk0, hk1, hs0, hs1, ho1, hrz⟩ := hinv52
            have hxy := hg.2.2.2.2.2
            refine lv_aload_n hX0 hB0 dX4_run_52 rfl (lv_at hl 1 rfl) ?_
            refine z_get (Cn := RX4) (T := TX4) (N := 6) CX hW (v := .int (zI k)) hg.1 rfl (fun w h => List.mem_cons_of_mem _ (List.mem_append_left _ (List.mem_append_right _ h))) 2 (by decide) (List.mem_of_getElem? (i := 5) rfl) rfl rfl dX4_run_53 ?_
            refine lv_sipush (v := zI 2048) hX0 hB0 dX4_run_56 (by decide) ?_
            refine z_icmp_ge (tgt := 183) CX dX4_run_59 (by decide) (by constructor <;> omega) (by constructor <;> omega) (fun c_59 => ?_) (fun c_59 => ?_)
            ·
              refine lv_iload hX0 hB0 dX4_run_183 (lv_at hl 0 rfl) ?_
              rw [← hQ]
              refine z_iret (z := sm) CX hW ?_ rfl dX4_run_185
              have hrr : zrunA p d e ki = (sm, k, F1, G1, o1, k1) := by rw [hrz, show (2048 - k).toNat = 0 by omega]; rfl
              rw [hrr]
              exact ⟨rfl, hfr, x1, y1, hg, hF1, hG1⟩
            ·
              refine lv_aload_n hX0 hB0 dX4_run_62 rfl (lv_at hl 1 rfl) ?_
              refine z_calli hW (va_runV (C := RX4) (As := []) (rest := []) CX.fix (c_whichFits l (f := g) r x1 y1 k p o1 k1 F1 G1 ⟨hg.1, hg.2.1, hg.2.2.1, hg.2.2.2.1, hg.2.2.2.2.1, hxy⟩ (by assumption) (by assumption)) (cwV 0 CX.fix.2.2.2.2 gX4_run_X4_whichFits rfl rfl rfl (by decide +kernel) ⟨Nat.le_of_ble_eq_true rfl, Nat.le_of_ble_eq_true rfl⟩) (z_preV CX hW (r := (RX4, TX4, 6)) hg.1 rfl) rfl rfl hl.1 rfl (lv_room (Nat.le_of_ble_eq_true rfl)) dX4_run_63 ⟨Nat.zero_le _, Nat.zero_le _⟩) (fun zv gn H locs hok63 hW => ?_)
              obtain ⟨ez, eg⟩ := hok63
              have eg : gn = g := eg
              rw [eg] at hW
              clear eg
              have ez : zv = zwhich F1 G1 := ez
              rw [ez]
              clear ez
              have hwh63 := zwhich_rng F1 G1
              refine lv_istore (lv' := [(5, .int (zI (zwhich F1 G1))), (4, .int (zI sm)), (0, .ref r), (1, .ref h0), (2, .ref h1), (3, .int (zI p))]) hX0 hB0 dX4_run_66 hl (by decide) rfl (fun ls hl => ?_)
              refine lv_aload_n hX0 hB0 dX4_run_68 rfl (lv_at hl 2 rfl) ?_
              refine z_get (Cn := RX4) (T := TX4) (N := 6) CX hW (v := .ref (r + 2)) hg.1 rfl (fun w h => List.mem_cons_of_mem _ (List.mem_append_left _ (List.mem_append_right _ h))) 1 (by decide) (List.mem_of_getElem? (i := 6) rfl) rfl rfl dX4_run_69 ?_
              refine lv_aload_n hX0 hB0 dX4_run_72 rfl (lv_at hl 2 rfl) ?_
              refine z_get (Cn := RX4) (T := TX4) (N := 6) CX hW (v := .int (zI k)) hg.1 rfl (fun w h => List.mem_cons_of_mem _ (List.mem_append_left _ (List.mem_append_right _ h))) 2 (by decide) (List.mem_of_getElem? (i := 5) rfl) rfl rfl dX4_run_73 ?_
              refine lv_iload hX0 hB0 dX4_run_76 (lv_at hl 0 rfl) ?_
              refine z_iast CX hW hg.2.2.1 0 rfl (by refine ⟨?_, ?_, ?_⟩ <;> omega) (g := va_up g (r + 2) (zA cI 2048 (zup k1 k.toNat (zwhich F1 G1)))) rfl dX4_run_78 (fun H locs hW => ?_)
              refine lv_aload_n hX0 hB0 dX4_run_79 rfl (lv_at hl 2 rfl) ?_
              refine z_get (Cn := RX4) (T := TX4) (N := 6) CX hW (v := .ref (r + 1)) ((va_up_ne _ _ (by omega)).trans hg.1) rfl (fun w h => List.mem_cons_of_mem _ (List.mem_append_left _ (List.mem_append_right _ h))) 0 (by decide) (List.mem_of_getElem? (i := 4) rfl) rfl rfl dX4_run_80 ?_
              refine lv_iload hX0 hB0 dX4_run_83 (lv_at hl 0 rfl) ?_
              refine lv_dup2_11 hX0 hB0 dX4_run_85 rfl rfl ?_
              refine z_iald (z := o1 ((zwhich F1 G1).toNat)) CX hW ((va_up_ne _ _ (by omega)).trans hg.2.1) 0 rfl (by refine ⟨?_, ?_, ?_⟩ <;> omega) rfl dX4_run_86 ?_
              have hr1 := ho1 ((zwhich F1 G1).toNat)
              refine lv_iconst (v := zI 1) hX0 hB0 dX4_run_87 rfl ?_
              refine z_iadd (z := (o1 ((zwhich F1 G1).toNat)) + 1) CX dX4_run_88 rfl ?_
              refine z_iast CX hW ((va_up_ne _ _ (by omega)).trans hg.2.1) 0 rfl (by refine ⟨?_, ?_, ?_⟩ <;> omega) (g := va_up (va_up g (r + 2) (zA cI 2048 (zup k1 k.toNat (zwhich F1 G1)))) (r + 1) (zA cI 4 (zup o1 ((zwhich F1 G1).toNat) ((o1 ((zwhich F1 G1).toNat)) + 1)))) rfl dX4_run_89 (fun H locs hW => ?_)
              refine lv_iload hX0 hB0 dX4_run_90 (lv_at hl 0 rfl) ?_
              by_cases c_92_0 : zwhich F1 G1 = 1
              ·
                refine z_tin (K := 1) (off := 28) (tgt := 120) CX dX4_run_92 (by constructor <;> omega) c_92_0 (by decide) (by decide) rfl (by decide) ?_
                refine lv_iload hX0 hB0 dX4_run_120 (lv_at hl 1 rfl) ?_
                refine lv_aload_n hX0 hB0 dX4_run_122 rfl (lv_at hl 2 rfl) ?_
                refine z_get (Cn := RX4) (T := TX4) (N := 6) CX hW (v := .ref y1) ((va_up_ne _ _ (by omega)).trans ((va_up_ne _ _ (by omega)).trans hg.1)) rfl (fun w h => List.mem_cons_of_mem _ (List.mem_append_left _ (List.mem_append_right _ h))) 4 (by decide) (List.mem_of_getElem? (i := 3) rfl) rfl rfl dX4_run_123 ?_
                refine z_calli hW (va_runS (As := [.ref y1]) (rest := [.int (zI sm)]) CX.fix (c_leastPure l (f := va_up (va_up g (r + 2) (zA cI 2048 (zup k1 k.toNat (zwhich F1 G1)))) (r + 1) (zA cI 4 (zup o1 ((zwhich F1 G1).toNat) ((o1 ((zwhich F1 G1).toNat)) + 1)))) y1 G1 ((va_up_ne _ _ (by omega)).trans ((va_up_ne _ _ (by omega)).trans hg.2.2.2.2.1)) (by assumption)) (va_cwS 1 CX.fix.2.2.2.2 gX4_run_X4_leastPure rfl rfl rfl (by decide +kernel) ⟨Nat.le_of_ble_eq_true rfl, Nat.le_of_ble_eq_true rfl⟩) (z_preS CX hW) rfl rfl hl.1 rfl (lv_room (Nat.le_of_ble_eq_true rfl)) dX4_run_126 ⟨Nat.zero_le _, Nat.zero_le _⟩) (fun zv gn H locs hok126 hW => ?_)
                obtain ⟨ez, eg⟩ := hok126
                have eg : gn = va_up (va_up g (r + 2) (zA cI 2048 (zup k1 k.toNat (zwhich F1 G1)))) (r + 1) (zA cI 4 (zup o1 ((zwhich F1 G1).toNat) ((o1 ((zwhich F1 G1).toNat)) + 1))) := eg
                rw [eg] at hW
                clear eg
                have ez : zv = zlst G1 := ez
                rw [ez]
                clear ez
                have hzlst126 := zlst_rng G1
                refine lv_iconst (v := zI 0) hX0 hB0 dX4_run_129 rfl ?_
                refine z_mmax (z := max (zlst G1) 0) CX hW hl.1 (CX.at (List.mem_of_getElem? (i := 7) rfl)) (CX.at (List.mem_of_getElem? (i := 8) rfl)) (CX.at (List.mem_of_getElem? (i := 9) rfl)) (CX.at (List.mem_of_getElem? (i := 10) rfl)) (Nat.le_of_ble_eq_true rfl) (Nat.le_of_ble_eq_true rfl) (Nat.zero_le _) (Nat.zero_le _) (by constructor <;> omega) (by constructor <;> omega) rfl dX4_run_130 ?_
                refine z_iadd (z := sm + (max (zlst G1) 0)) CX dX4_run_133 rfl ?_
                refine lv_istore (lv' := [(4, .int (zI (sm + (max (zlst G1) 0)))), (5, .int (zI (zwhich F1 G1))), (0, .ref r), (1, .ref h0), (2, .ref h1), (3, .int (zI p))]) hX0 hB0 dX4_run_134 hl (by decide) rfl (fun ls hl => ?_)
                refine lv_aload_n hX0 hB0 dX4_run_136 rfl (lv_at hl 2 rfl) ?_
                refine z_callv hW (va_runV (C := RX4) (As := []) (rest := []) CX.fix (c_split l (f := va_up (va_up g (r + 2) (zA cI 2048 (zup k1 k.toNat (zwhich F1 G1)))) (r + 1) (zA cI 4 (zup o1 ((zwhich F1 G1).toNat) ((o1 ((zwhich F1 G1).toNat)) + 1)))) r x1 y1 k p (zup o1 ((zwhich F1 G1).toNat) ((o1 ((zwhich F1 G1).toNat)) + 1)) (zup k1 k.toNat (zwhich F1 G1)) F1 G1 ⟨((va_up_ne _ _ (by omega)).trans ((va_up_ne _ _ (by omega)).trans hg.1)), (va_up_self _ _ _), ((va_up_ne _ _ (by omega)).trans (va_up_self _ _ _)), ((va_up_ne _ _ (by omega)).trans ((va_up_ne _ _ (by omega)).trans hg.2.2.2.1)), ((va_up_ne _ _ (by omega)).trans ((va_up_ne _ _ (by omega)).trans hg.2.2.2.2.1)), hxy⟩ (by assumption) (by assumption)) (cwV 0 CX.fix.2.2.2.2 gX4_run_X4_split rfl rfl rfl (by decide +kernel) ⟨Nat.le_of_ble_eq_true rfl, Nat.le_of_ble_eq_true rfl⟩) (z_preV CX hW (r := (RX4, TX4, 6)) ((va_up_ne _ _ (by omega)).trans ((va_up_ne _ _ (by omega)).trans hg.1)) rfl) rfl rfl hl.1 rfl (lv_room (Nat.le_of_ble_eq_true rfl)) dX4_run_137 ⟨Nat.zero_le _, Nat.zero_le _⟩) (fun gn H locs hok137 hW => ?_)
                have eg : gn = va_up (va_up (va_up g (r + 2) (zA cI 2048 (zup k1 k.toNat (zwhich F1 G1)))) (r + 1) (zA cI 4 (zup o1 ((zwhich F1 G1).toNat) ((o1 ((zwhich F1 G1).toNat)) + 1)))) x1 (zA cI 289 (zspl F1)) := hok137
                rw [eg] at hW
                clear eg
                refine lv_goto (tgt := 170) hX0 hB0 dX4_run_140 (by decide) ?_
                refine lv_aload_n hX0 hB0 dX4_run_170 rfl (lv_at hl 2 rfl) ?_
                refine lv_dup hX0 hB0 dX4_run_171 rfl ?_
                refine z_get (Cn := RX4) (T := TX4) (N := 6) CX hW (v := .int (zI k)) ((va_up_ne _ _ (by omega)).trans ((va_up_ne _ _ (by omega)).trans ((va_up_ne _ _ (by omega)).trans hg.1))) rfl (fun w h => List.mem_cons_of_mem _ (List.mem_append_left _ (List.mem_append_right _ h))) 2 (by decide) (List.mem_of_getElem? (i := 5) rfl) rfl rfl dX4_run_172 ?_
                refine lv_iconst (v := zI 1) hX0 hB0 dX4_run_175 rfl ?_
                refine z_iadd (z := k + 1) CX dX4_run_176 rfl ?_
                refine z_put (Cn := RX4) (T := TX4) (N := 6) CX hW (v := .int (zI (k + 1))) ((va_up_ne _ _ (by omega)).trans ((va_up_ne _ _ (by omega)).trans ((va_up_ne _ _ (by omega)).trans hg.1))) rfl (fun w h => List.mem_cons_of_mem _ (List.mem_append_left _ (List.mem_append_right _ h))) tyX4 tyX4_ok nmX4 2 (by decide) (List.mem_of_getElem? (i := 5) rfl) rfl rfl rfl rfl (Nat.le_of_ble_eq_true rfl) (g := va_up (va_up (va_up (va_up g (r + 2) (zA cI 2048 (zup k1 k.toNat (zwhich F1 G1)))) (r + 1) (zA cI 4 (zup o1 ((zwhich F1 G1).toNat) ((o1 ((zwhich F1 G1).toNat)) + 1)))) x1 (zA cI 289 (zspl F1))) r (.inr (4, [.ref (r + 1), .ref (r + 2), .int (zI (k + 1)), .ref x1, .ref y1, .int (zI p)]))) rfl dX4_run_177 (fun H locs hW => ?_)
                refine lv_goto (tgt := 52) hX0 hB0 dX4_run_180 (by decide) ?_
                exact ih52 (k + 1) (sm + (max (zlst G1) 0)) (va_up (va_up (va_up (va_up g (r + 2) (zA cI 2048 (zup k1 k.toNat (zwhich F1 G1)))) (r + 1) (zA cI 4 (zup o1 ((zwhich F1 G1).toNat) ((o1 ((zwhich F1 G1).toNat)) + 1)))) x1 (zA cI 289 (zspl F1))) r (.inr (4, [.ref (r + 1), .ref (r + 2), .int (zI (k + 1)), .ref x1, .ref y1, .int (zI p)]))) x1 y1 (zup o1 ((zwhich F1 G1).toNat) ((o1 ((zwhich F1 G1).toNat)) + 1)) (zup k1 k.toNat (zwhich F1 G1)) (zspl F1) G1 ⟨fun q hq => ((va_up_ne _ _ (by omega)).trans ((va_up_ne _ _ (by omega)).trans ((va_up_ne _ _ (by omega)).trans ((va_up_ne _ _ (by omega)).trans ((hfr _ (by omega)).trans rfl))))), ⟨(va_up_self _ _ _), ((va_up_ne _ _ (by omega)).trans ((va_up_ne _ _ (by omega)).trans (va_up_self _ _ _))), ((va_up_ne _ _ (by omega)).trans ((va_up_ne _ _ (by omega)).trans ((va_up_ne _ _ (by omega)).trans (va_up_self _ _ _)))), ((va_up_ne _ _ (by omega)).trans (va_up_self _ _ _)), ((va_up_ne _ _ (by omega)).trans ((va_up_ne _ _ (by omega)).trans ((va_up_ne _ _ (by omega)).trans ((va_up_ne _ _ (by omega)).trans hg.2.2.2.2.1)))), by omega⟩, by first | exact zspl_can (by omega) hF1 | assumption, by first | exact zcut_can (by omega) (by omega) hG1 | assumption, by omega, by omega, by omega, by omega, (fun j => by
                  have hj := ho1 j
                  have hj2 := ho1 (zwhich F1 G1).toNat
                  unfold zup
                  split <;> omega), by rw [hrz, zrun_s p F1 G1 o1 k1 sm (by omega)]; rw [if_pos c_92_0, c_92_0]; rfl⟩ (by omega) H locs ls hW (lv_sub hl [0, 2, 3, 4, 5] rfl)
              by_cases c_92_1 : zwhich F1 G1 = 2
              ·
                refine z_tin (K := 2) (off := 51) (tgt := 143) CX dX4_run_92 (by constructor <;> omega) c_92_1 (by decide) (by decide) rfl (by decide) ?_
                refine lv_aload_n hX0 hB0 dX4_run_143 rfl (lv_at hl 2 rfl) ?_
                refine z_callv hW (va_runV (C := RX4) (As := []) (rest := []) CX.fix (c_swap l (f := va_up (va_up g (r + 2) (zA cI 2048 (zup k1 k.toNat (zwhich F1 G1)))) (r + 1) (zA cI 4 (zup o1 ((zwhich F1 G1).toNat) ((o1 ((zwhich F1 G1).toNat)) + 1)))) r x1 y1 k p (zup o1 ((zwhich F1 G1).toNat) ((o1 ((zwhich F1 G1).toNat)) + 1)) (zup k1 k.toNat (zwhich F1 G1)) F1 G1 ⟨((va_up_ne _ _ (by omega)).trans ((va_up_ne _ _ (by omega)).trans hg.1)), (va_up_self _ _ _), ((va_up_ne _ _ (by omega)).trans (va_up_self _ _ _)), ((va_up_ne _ _ (by omega)).trans ((va_up_ne _ _ (by omega)).trans hg.2.2.2.1)), ((va_up_ne _ _ (by omega)).trans ((va_up_ne _ _ (by omega)).trans hg.2.2.2.2.1)), hxy⟩ (by assumption) (by assumption)) (cwV 0 CX.fix.2.2.2.2 gX4_run_X4_swap rfl rfl rfl (by decide +kernel) ⟨Nat.le_of_ble_eq_true rfl, Nat.le_of_ble_eq_true rfl⟩) (z_preV CX hW (r := (RX4, TX4, 6)) ((va_up_ne _ _ (by omega)).trans ((va_up_ne _ _ (by omega)).trans hg.1)) rfl) rfl rfl hl.1 rfl (lv_room (Nat.le_of_ble_eq_true rfl)) dX4_run_144 ⟨Nat.zero_le _, Nat.zero_le _⟩) (fun gn H locs hok144 hW => ?_)
                have eg : gn = va_up (va_up (va_up g (r + 2) (zA cI 2048 (zup k1 k.toNat (zwhich F1 G1)))) (r + 1) (zA cI 4 (zup o1 ((zwhich F1 G1).toNat) ((o1 ((zwhich F1 G1).toNat)) + 1)))) r (.inr (4, [.ref (r + 1), .ref (r + 2), .int (zI k), .ref y1, .ref x1, .int (zI p)])) := hok144
                rw [eg] at hW
                clear eg
                refine lv_goto (tgt := 170) hX0 hB0 dX4_run_147 (by decide) ?_
                refine lv_aload_n hX0 hB0 dX4_run_170 rfl (lv_at hl 2 rfl) ?_
                refine lv_dup hX0 hB0 dX4_run_171 rfl ?_
                refine z_get (Cn := RX4) (T := TX4) (N := 6) CX hW (v := .int (zI k)) (va_up_self _ _ _) rfl (fun w h => List.mem_cons_of_mem _ (List.mem_append_left _ (List.mem_append_right _ h))) 2 (by decide) (List.mem_of_getElem? (i := 5) rfl) rfl rfl dX4_run_172 ?_
                refine lv_iconst (v := zI 1) hX0 hB0 dX4_run_175 rfl ?_
                refine z_iadd (z := k + 1) CX dX4_run_176 rfl ?_
                refine z_put (Cn := RX4) (T := TX4) (N := 6) CX hW (v := .int (zI (k + 1))) (va_up_self _ _ _) rfl (fun w h => List.mem_cons_of_mem _ (List.mem_append_left _ (List.mem_append_right _ h))) tyX4 tyX4_ok nmX4 2 (by decide) (List.mem_of_getElem? (i := 5) rfl) rfl rfl rfl rfl (Nat.le_of_ble_eq_true rfl) (g := va_up (va_up (va_up g (r + 2) (zA cI 2048 (zup k1 k.toNat (zwhich F1 G1)))) (r + 1) (zA cI 4 (zup o1 ((zwhich F1 G1).toNat) ((o1 ((zwhich F1 G1).toNat)) + 1)))) r (.inr (4, [.ref (r + 1), .ref (r + 2), .int (zI (k + 1)), .ref y1, .ref x1, .int (zI p)]))) va_up_up dX4_run_177 (fun H locs hW => ?_)
                refine lv_goto (tgt := 52) hX0 hB0 dX4_run_180 (by decide) ?_
                exact ih52 (k + 1) sm (va_up (va_up (va_up g (r + 2) (zA cI 2048 (zup k1 k.toNat (zwhich F1 G1)))) (r + 1) (zA cI 4 (zup o1 ((zwhich F1 G1).toNat) ((o1 ((zwhich F1 G1).toNat)) + 1)))) r (.inr (4, [.ref (r + 1), .ref (r + 2), .int (zI (k + 1)), .ref y1, .ref x1, .int (zI p)]))) y1 x1 (zup o1 ((zwhich F1 G1).toNat) ((o1 ((zwhich F1 G1).toNat)) + 1)) (zup k1 k.toNat (zwhich F1 G1)) G1 F1 ⟨fun q hq => ((va_up_ne _ _ (by omega)).trans ((va_up_ne _ _ (by omega)).trans ((va_up_ne _ _ (by omega)).trans ((hfr _ (by omega)).trans rfl)))), ⟨(va_up_self _ _ _), ((va_up_ne _ _ (by omega)).trans (va_up_self _ _ _)), ((va_up_ne _ _ (by omega)).trans ((va_up_ne _ _ (by omega)).trans (va_up_self _ _ _))), ((va_up_ne _ _ (by omega)).trans ((va_up_ne _ _ (by omega)).trans ((va_up_ne _ _ (by omega)).trans hg.2.2.2.2.1))), ((va_up_ne _ _ (by omega)).trans ((va_up_ne _ _ (by omega)).trans ((va_up_ne _ _ (by omega)).trans hg.2.2.2.1))), by omega⟩, by first | exact zspl_can (by omega) hF1 | assumption, by first | exact zcut_can (by omega) (by omega) hG1 | assumption, by omega, by omega, by omega, by omega, (fun j => by
                  have hj := ho1 j
                  have hj2 := ho1 (zwhich F1 G1).toNat
                  unfold zup
                  split <;> omega), by rw [hrz, zrun_s p F1 G1 o1 k1 sm (by omega)]; rw [if_neg (by omega), if_pos c_92_1, c_92_1]; rfl⟩ (by omega) H locs ls hW (lv_sub hl [1, 2, 3, 4, 5] rfl)
              by_cases c_92_2 : zwhich F1 G1 = 3
              ·
                refine z_tin (K := 3) (off := 58) (tgt := 150) CX dX4_run_92 (by constructor <;> omega) c_92_2 (by decide) (by decide) rfl (by decide) ?_
                refine lv_aload_n hX0 hB0 dX4_run_150 rfl (lv_at hl 2 rfl) ?_
                refine z_callv hW (va_runV (C := RX4) (As := []) (rest := []) CX.fix (c_cut l (f := va_up (va_up g (r + 2) (zA cI 2048 (zup k1 k.toNat (zwhich F1 G1)))) (r + 1) (zA cI 4 (zup o1 ((zwhich F1 G1).toNat) ((o1 ((zwhich F1 G1).toNat)) + 1)))) r x1 y1 k p (zup o1 ((zwhich F1 G1).toNat) ((o1 ((zwhich F1 G1).toNat)) + 1)) (zup k1 k.toNat (zwhich F1 G1)) F1 G1 ⟨((va_up_ne _ _ (by omega)).trans ((va_up_ne _ _ (by omega)).trans hg.1)), (va_up_self _ _ _), ((va_up_ne _ _ (by omega)).trans (va_up_self _ _ _)), ((va_up_ne _ _ (by omega)).trans ((va_up_ne _ _ (by omega)).trans hg.2.2.2.1)), ((va_up_ne _ _ (by omega)).trans ((va_up_ne _ _ (by omega)).trans hg.2.2.2.2.1)), hxy⟩ (by assumption) (by assumption) (by omega)) (cwV 0 CX.fix.2.2.2.2 gX4_run_X4_cut rfl rfl rfl (by decide +kernel) ⟨Nat.le_of_ble_eq_true rfl, Nat.le_of_ble_eq_true rfl⟩) (z_preV CX hW (r := (RX4, TX4, 6)) ((va_up_ne _ _ (by omega)).trans ((va_up_ne _ _ (by omega)).trans hg.1)) rfl) rfl rfl hl.1 rfl (lv_room (Nat.le_of_ble_eq_true rfl)) dX4_run_151 ⟨Nat.zero_le _, Nat.zero_le _⟩) (fun gn H locs hok151 hW => ?_)
                have eg : gn = va_up (va_up (va_up g (r + 2) (zA cI 2048 (zup k1 k.toNat (zwhich F1 G1)))) (r + 1) (zA cI 4 (zup o1 ((zwhich F1 G1).toNat) ((o1 ((zwhich F1 G1).toNat)) + 1)))) y1 (zA cI 289 (zcut F1 G1 p)) := hok151
                rw [eg] at hW
                clear eg
                refine lv_goto (tgt := 170) hX0 hB0 dX4_run_154 (by decide) ?_
                refine lv_aload_n hX0 hB0 dX4_run_170 rfl (lv_at hl 2 rfl) ?_
                refine lv_dup hX0 hB0 dX4_run_171 rfl ?_
                refine z_get (Cn := RX4) (T := TX4) (N := 6) CX hW (v := .int (zI k)) ((va_up_ne _ _ (by omega)).trans ((va_up_ne _ _ (by omega)).trans ((va_up_ne _ _ (by omega)).trans hg.1))) rfl (fun w h => List.mem_cons_of_mem _ (List.mem_append_left _ (List.mem_append_right _ h))) 2 (by decide) (List.mem_of_getElem? (i := 5) rfl) rfl rfl dX4_run_172 ?_
                refine lv_iconst (v := zI 1) hX0 hB0 dX4_run_175 rfl ?_
                refine z_iadd (z := k + 1) CX dX4_run_176 rfl ?_
                refine z_put (Cn := RX4) (T := TX4) (N := 6) CX hW (v := .int (zI (k + 1))) ((va_up_ne _ _ (by omega)).trans ((va_up_ne _ _ (by omega)).trans ((va_up_ne _ _ (by omega)).trans hg.1))) rfl (fun w h => List.mem_cons_of_mem _ (List.mem_append_left _ (List.mem_append_right _ h))) tyX4 tyX4_ok nmX4 2 (by decide) (List.mem_of_getElem? (i := 5) rfl) rfl rfl rfl rfl (Nat.le_of_ble_eq_true rfl) (g := va_up (va_up (va_up (va_up g (r + 2) (zA cI 2048 (zup k1 k.toNat (zwhich F1 G1)))) (r + 1) (zA cI 4 (zup o1 ((zwhich F1 G1).toNat) ((o1 ((zwhich F1 G1).toNat)) + 1)))) y1 (zA cI 289 (zcut F1 G1 p))) r (.inr (4, [.ref (r + 1), .ref (r + 2), .int (zI (k + 1)), .ref x1, .ref y1, .int (zI p)]))) rfl dX4_run_177 (fun H locs hW => ?_)
                refine lv_goto (tgt := 52) hX0 hB0 dX4_run_180 (by decide) ?_
                exact ih52 (k + 1) sm (va_up (va_up (va_up (va_up g (r + 2) (zA cI 2048 (zup k1 k.toNat (zwhich F1 G1)))) (r + 1) (zA cI 4 (zup o1 ((zwhich F1 G1).toNat) ((o1 ((zwhich F1 G1).toNat)) + 1)))) y1 (zA cI 289 (zcut F1 G1 p))) r (.inr (4, [.ref (r + 1), .ref (r + 2), .int (zI (k + 1)), .ref x1, .ref y1, .int (zI p)]))) x1 y1 (zup o1 ((zwhich F1 G1).toNat) ((o1 ((zwhich F1 G1).toNat)) + 1)) (zup k1 k.toNat (zwhich F1 G1)) F1 (zcut F1 G1 p) ⟨fun q hq => ((va_up_ne _ _ (by omega)).trans ((va_up_ne _ _ (by omega)).trans ((va_up_ne _ _ (by omega)).trans ((va_up_ne _ _ (by omega)).trans ((hfr _ (by omega)).trans rfl))))), ⟨(va_up_self _ _ _), ((va_up_ne _ _ (by omega)).trans ((va_up_ne _ _ (by omega)).trans (va_up_self _ _ _))), ((va_up_ne _ _ (by omega)).trans ((va_up_ne _ _ (by omega)).trans ((va_up_ne _ _ (by omega)).trans (va_up_self _ _ _)))), ((va_up_ne _ _ (by omega)).trans ((va_up_ne _ _ (by omega)).trans ((va_up_ne _ _ (by omega)).trans ((va_up_ne _ _ (by omega)).trans hg.2.2.2.1)))), ((va_up_ne _ _ (by omega)).trans (va_up_self _ _ _)), by omega⟩, by first | exact zspl_can (by omega) hF1 | assumption, by first | exact zcut_can (by omega) (by omega) hG1 | assumption, by omega, by omega, by omega, by omega, (fun j => by
                  have hj := ho1 j
                  have hj2 := ho1 (zwhich F1 G1).toNat
                  unfold zup
                  split <;> omega), by rw [hrz, zrun_s p F1 G1 o1 k1 sm (by omega)]; rw [if_neg (by omega), if_neg (by omega), if_pos c_92_2, c_92_2]; rfl⟩ (by omega) H locs ls hW (lv_sub hl [1, 2, 3, 4, 5] rfl)
              refine z_tout (tgt := 157) CX dX4_run_92 (by constructor <;> omega) (by omega) (by decide) ?_
              refine lv_aload_n hX0 hB0 dX4_run_157 rfl (lv_at hl 2 rfl) ?_
              refine lv_dup hX0 hB0 dX4_run_158 rfl ?_
              refine z_get (Cn := RX4) (T := TX4) (N := 6) CX hW (v := .int (zI k)) ((va_up_ne _ _ (by omega)).trans ((va_up_ne _ _ (by omega)).trans hg.1)) rfl (fun w h => List.mem_cons_of_mem _ (List.mem_append_left _ (List.mem_append_right _ h))) 2 (by decide) (List.mem_of_getElem? (i := 5) rfl) rfl rfl dX4_run_159 ?_
              refine lv_iconst (v := zI 1) hX0 hB0 dX4_run_162 rfl ?_
              refine z_iadd (z := k + 1) CX dX4_run_163 rfl ?_
              refine z_put (Cn := RX4) (T := TX4) (N := 6) CX hW (v := .int (zI (k + 1))) ((va_up_ne _ _ (by omega)).trans ((va_up_ne _ _ (by omega)).trans hg.1)) rfl (fun w h => List.mem_cons_of_mem _ (List.mem_append_left _ (List.mem_append_right _ h))) tyX4 tyX4_ok nmX4 2 (by decide) (List.mem_of_getElem? (i := 5) rfl) rfl rfl rfl rfl (Nat.le_of_ble_eq_true rfl) (g := va_up (va_up (va_up g (r + 2) (zA cI 2048 (zup k1 k.toNat (zwhich F1 G1)))) (r + 1) (zA cI 4 (zup o1 ((zwhich F1 G1).toNat) ((o1 ((zwhich F1 G1).toNat)) + 1)))) r (.inr (4, [.ref (r + 1), .ref (r + 2), .int (zI (k + 1)), .ref x1, .ref y1, .int (zI p)]))) rfl dX4_run_164 (fun H locs hW => ?_)
              refine lv_iload hX0 hB0 dX4_run_167 (lv_at hl 1 rfl) ?_
              rw [← hQ]
              refine z_iret (z := sm) CX hW ?_ rfl dX4_run_169
              have hw0 : zwhich F1 G1 = 0 := by omega
              have hrr : zrunA p d e ki = (sm, k + 1, F1, G1, zup o1 0 (o1 0 + 1), zup k1 k.toNat 0) := by rw [hrz, zrun_s p F1 G1 o1 k1 sm (by omega), if_neg (by omega), if_neg (by omega), if_neg (by omega)]
              rw [hrr]
              have e1 : zup o1 0 (o1 0 + 1) = zup o1 (zwhich F1 G1).toNat (o1 (zwhich F1 G1).toNat + 1) := by rw [hw0]; rfl
              have e2 : zup k1 k.toNat 0 = zup k1 k.toNat (zwhich F1 G1) := by rw [hw0]
              refine ⟨rfl, fun q hq => ((va_up_ne _ _ (by omega)).trans ((va_up_ne _ _ (by omega)).trans ((va_up_ne _ _ (by omega)).trans ((hfr _ (by omega)).trans rfl)))), x1, y1, ⟨(va_up_self _ _ _), (by show _ = zA cI 4 (zup o1 0 (o1 0 + 1)); rw [e1]; exact ((va_up_ne _ _ (by omega)).trans (va_up_self _ _ _))), (by show _ = zA cI 2048 (zup k1 k.toNat 0); rw [e2]; exact ((va_up_ne _ _ (by omega)).trans ((va_up_ne _ _ (by omega)).trans (va_up_self _ _ _)))), ((va_up_ne _ _ (by omega)).trans ((va_up_ne _ _ (by omega)).trans ((va_up_ne _ _ (by omega)).trans hg.2.2.2.1))), ((va_up_ne _ _ (by omega)).trans ((va_up_ne _ _ (by omega)).trans ((va_up_ne _ _ (by omega)).trans hg.2.2.2.2.1))), hxy⟩, hF1, hG1⟩
        exact hL52 _ 0 0 (va_up (va_up (va_up (va_up f r (.inr (4, [.ref (r + 1), .ref (r + 2), .int (zI 0), .ref x, .ref y, .int (zI p)]))) x (zA cI 289 (zld d))) y (zA cI 289 (zld e))) (r + 1) (zA cI 4 ((fun _ => 0)))) x y ((fun _ => 0)) ki (zld d) (zld e) ⟨fun q hq => ((va_up_ne _ _ (by omega)).trans ((va_up_ne _ _ (by omega)).trans ((va_up_ne _ _ (by omega)).trans ((va_up_ne _ _ (by omega)).trans rfl)))), ⟨((va_up_ne _ _ (by omega)).trans ((va_up_ne _ _ (by omega)).trans ((va_up_ne _ _ (by omega)).trans (va_up_self _ _ _)))), (va_up_self _ _ _), ((va_up_ne _ _ (by omega)).trans ((va_up_ne _ _ (by omega)).trans ((va_up_ne _ _ (by omega)).trans ((va_up_ne _ _ (by omega)).trans hD.2.2.1)))), ((va_up_ne _ _ (by omega)).trans ((va_up_ne _ _ (by omega)).trans (va_up_self _ _ _))), ((va_up_ne _ _ (by omega)).trans (va_up_self _ _ _)), hxy⟩, zld_can (by omega) hd, zld_can (by omega) he, by omega, by omega, by omega, by omega, fun j => by omega, rfl⟩ (Nat.lt_succ_self _) H locs ls hW (lv_sub hl [0, 1, 2, 3, 4] rfl)
      ·
        refine lv_aload_n hX0 hB0 dX4_run_30 rfl (lv_at hl 1 rfl) ?_
        refine z_get (Cn := RX4) (T := TX4) (N := 6) CX hW (v := .ref (r + 1)) ((va_up_ne _ _ (by omega)).trans ((va_up_ne _ _ (by omega)).trans ((va_up_ne _ _ (by omega)).trans (va_up_self _ _ _)))) rfl (fun w h => List.mem_cons_of_mem _ (List.mem_append_left _ (List.mem_append_right _ h))) 0 (by decide) (List.mem_of_getElem? (i := 4) rfl) rfl rfl dX4_run_31 ?_
        refine lv_iload hX0 hB0 dX4_run_34 (lv_at hl 0 rfl) ?_
        refine lv_iconst (v := zI 0) hX0 hB0 dX4_run_36 rfl ?_
        refine z_iast CX hW (va_up_self _ _ _) 0 rfl (by refine ⟨?_, ?_, ?_⟩ <;> omega) (g := va_up (va_up (va_up (va_up f r (.inr (4, [.ref (r + 1), .ref (r + 2), .int (zI sn), .ref x, .ref y, .int (zI p)]))) x (zA cI 289 (zld d))) y (zA cI 289 (zld e))) (r + 1) (zA cI 4 (zup oo k.toNat 0))) va_up_up dX4_run_37 (fun H locs hW => ?_)
        refine lv_iinc (v := zI (k + 1)) (lv' := [(4, .int (zI (k + 1))), (0, .ref r), (1, .ref h0), (2, .ref h1), (3, .int (zI p))]) hX0 hB0 dX4_run_38 hl (k := 0) rfl (zI_add _ _) (by decide) rfl (fun ls hl => ?_)
        refine lv_goto (tgt := 24) hX0 hB0 dX4_run_41 (by decide) ?_
        exact ih24 (k + 1) (zup oo k.toNat 0) ⟨by omega, by omega, zup_step (b := oo) (q := fun _ => 0) hok hk0 rfl⟩ (by omega) H locs ls hW (lv_sub hl [0, 1, 2, 3, 4] rfl)
  have hW := hW
  rw [show va_up (va_up (va_up f r (.inr (4, [.ref (r + 1), .ref (r + 2), .int (zI sn), .ref x, .ref y, .int (zI p)]))) x (zA cI 289 (zld d))) y (zA cI 289 (zld e)) = va_up (va_up (va_up (va_up f r (.inr (4, [.ref (r + 1), .ref (r + 2), .int (zI sn), .ref x, .ref y, .int (zI p)]))) x (zA cI 289 (zld d))) y (zA cI 289 (zld e))) (r + 1) (zA cI 4 o) from by rw [va_up_id (a := (r + 1)) ((va_up_ne _ _ (by omega)).trans ((va_up_ne _ _ (by omega)).trans ((va_up_ne _ _ (by omega)).trans hD.2.1)))]] at hW
  exact hL24 _ 0 o ⟨by omega, by omega, fun j hj => by omega⟩ (Nat.lt_succ_self _) H locs ls hW (lv_sub hl [0, 1, 2, 3, 4] rfl)
end ZRe
