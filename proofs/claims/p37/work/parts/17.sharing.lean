section ZSh
/-- where a TERM stands in a line -/
def zcol (i j : Int) : Int := (i + j) * (i + j + 1) / 2 + j
theorem zcol_rng {i j : Int} (hi : 0 ≤ i ∧ i ≤ 200) (hj : 0 ≤ j ∧ j ≤ 200) : 0 ≤ zcol i j ∧ zcol i j ≤ 100000 := by
  have h := zmul_rng (a := i + j) (b := i + j + 1) (A := 400) (B := 401) (by omega) (by omega)
  unfold zcol
  omega
theorem zcol_8 {i j : Int} (hi : 0 ≤ i) (hj : 0 ≤ j) (h : i + j ≤ 8) : zcol i j ≤ 44 := by
  unfold zcol
  obtain ⟨d, hd⟩ : ∃ d, d = i + j := ⟨_, rfl⟩
  rw [← hd]
  have : d = 0 ∨ d = 1 ∨ d = 2 ∨ d = 3 ∨ d = 4 ∨ d = 5 ∨ d = 6 ∨ d = 7 ∨ d = 8 := by omega
  rcases this with e | e | e | e | e | e | e | e | e <;> rw [e] <;> omega
def zsc (l : Nat → Int) (k x : Int) : Nat → Int := if 0 ≤ k ∧ k < 94 ∧ x ≠ 0 then zup l k.toNat x else l
theorem zsc_can {p : Int} {l : Nat → Int} {k x : Int} (h : zcan p l) (hx : 0 ≤ x ∧ x < p) : zcan p (zsc l k x) := by
  unfold zsc
  split
  · exact zcan_up h _ hx
  · exact h
/-- a line that a TERM times a POLYNOMIAL makes -/
def zline_in (d : Nat → Int) (r u i : Int) : Int → (Nat → Int) → (Nat → Int) := fun j l => zsc l (zcol (i + r) (j + u)) (zat d i j)
def zline_out (d : Nat → Int) (r u : Int) : Int → (Nat → Int) → (Nat → Int) := fun i l => zfor (zline_in d r u i) 0 l (4 - i + 1 - 0).toNat
def zline (d : Nat → Int) (r u : Int) : Nat → Int := zfor (zline_out d r u) 0 (fun _ => 0) (5 - 0 : Int).toNat
theorem zline_can {p : Int} {d : Nat → Int} {r u : Int} (hp : 0 < p) (h : zcan p d) : zcan p (zline d r u) :=
  zfor_inv (zcan p) (fun _ => by show (0 : Int) ≤ 0 ∧ (0 : Int) < p; omega) (fun i x hx => zfor_inv (zcan p) hx (fun j y hy => zsc_can hy (zat_can hp h _ _)) _) _
/-- the COFACTOR that a line tells -/
def ztake_in (l : Nat → Int) (i : Int) : Int → (Nat → Int) → (Nat → Int) := fun j c => zput c i j (l (45 + zcol i j).toNat)
def ztake_out (l : Nat → Int) : Int → (Nat → Int) → (Nat → Int) := fun i c => zfor (ztake_in l i) 0 c (4 - i + 1 - 0).toNat
def ztake (l c : Nat → Int) : Nat → Int := zfor (ztake_out l) 0 c (5 - 0 : Int).toNat
theorem ztake_can {p : Int} {l c : Nat → Int} (h : zcan p l) (hc : zcan p c) : zcan p (ztake l c) :=
  zfor_inv (zcan p) hc (fun i x hx => zfor_inv (zcan p) hx (fun j y hy => zcan_put hy _ _ (h _)) _) _
/-- rows, which are known, the line -/
abbrev zSg : Type := (Nat → Nat → Int) × (Nat → Int) × (Nat → Int)
def zsg (p : Int) (l : Nat → Int) (s : zSg) : zSg := (zspR s.2.1 s.1 60 45 p l, zspK s.2.1 s.1 60 45 p l, (zspan s.2.1 s.1 60 45 p l).2)
def zfill_in (q : Nat → Int) (p d : Int) : Int → zSg → zSg := fun j s => zsg p (zline q (d - j) j) s
def zfill_out (q : Nat → Int) (p : Int) : Int → zSg → zSg := fun d s => zfor (zfill_in q p d) 0 s (d + 1 - 0).toNat
def zfcl (q : Nat → Int) (d j : Int) : Nat → Int := zsc (zline q (d - j) j) (45 + zcol (d - j) j) 1
def zfcI (q : Nat → Int) (p d : Int) : Nat → Int → zSg → Option (Nat → Int) × zSg
  | 0, _, s => (none, s)
  | n + 1, j, s => if zsp1 s.2.1 s.1 60 45 p (zfcl q d j) = 0 then (some (ztake (zsg p (zfcl q d j) s).2.2 (zone 1)), zsg p (zfcl q d j) s) else zfcI q p d n (j + 1) (zsg p (zfcl q d j) s)
def zfcO (q : Nat → Int) (p : Int) : Nat → Int → zSg → Option (Nat → Int) × zSg
  | 0, _, s => (none, s)
  | n + 1, d, s => match zfcI q p d (d + 1 - 0).toNat 0 s with
    | (some c, s2) => (some c, s2)
    | (none, s2) => zfcO q p n (d + 1) s2
def zfc (q : Nat → Int) (p most : Int) (s : zSg) : Option (Nat → Int) × zSg := zfcO q p (most + 1 - 0).toNat 0 s
def zoc (o : Option (Nat → Int)) : Nat → Int := match o with
  | none => zone 1
  | some c => c
theorem zfcI_s (q : Nat → Int) (p : Int) {d j : Int} (s : zSg) (h : j ≤ d) : zfcI q p d (d + 1 - j).toNat j s = if zsp1 s.2.1 s.1 60 45 p (zfcl q d j) = 0 then (some (ztake (zsg p (zfcl q d j) s).2.2 (zone 1)), zsg p (zfcl q d j) s) else zfcI q p d (d + 1 - (j + 1)).toNat (j + 1) (zsg p (zfcl q d j) s) := by
  rw [show (d + 1 - j).toNat = (d + 1 - (j + 1)).toNat + 1 by omega]
  rfl
theorem zfcI_t (q : Nat → Int) (p : Int) {d j : Int} (R : Nat → Nat → Int) (K l : Nat → Int) (h : j ≤ d) : zfcI q p d (d + 1 - j).toNat j (R, K, l) = if zsp1 K R 60 45 p (zsc (zline q (d - j) j) (45 + zcol (d - j) j) 1) = 0 then (some (ztake (zspan K R 60 45 p (zsc (zline q (d - j) j) (45 + zcol (d - j) j) 1)).2 (zone 1)), (zspR K R 60 45 p (zsc (zline q (d - j) j) (45 + zcol (d - j) j) 1), zspK K R 60 45 p (zsc (zline q (d - j) j) (45 + zcol (d - j) j) 1), (zspan K R 60 45 p (zsc (zline q (d - j) j) (45 + zcol (d - j) j) 1)).2)) else zfcI q p d (d + 1 - (j + 1)).toNat (j + 1) (zspR K R 60 45 p (zsc (zline q (d - j) j) (45 + zcol (d - j) j) 1), zspK K R 60 45 p (zsc (zline q (d - j) j) (45 + zcol (d - j) j) 1), (zspan K R 60 45 p (zsc (zline q (d - j) j) (45 + zcol (d - j) j) 1)).2) := zfcI_s q p (R, K, l) h
theorem zfcO_some (q : Nat → Int) (p : Int) {m d : Int} {s s2 : zSg} {c : Nat → Int} (h : d ≤ m) (h2 : zfcI q p d (d + 1 - 0).toNat 0 s = (some c, s2)) : zfcO q p (m + 1 - d).toNat d s = (some c, s2) := by
  rw [show (m + 1 - d).toNat = (m + 1 - (d + 1)).toNat + 1 by omega]
  show (match zfcI q p d (d + 1 - 0).toNat 0 s with
    | (some c, s2) => (some c, s2)
    | (none, s2) => zfcO q p _ (d + 1) s2) = _
  rw [h2]
theorem zfcO_none (q : Nat → Int) (p : Int) {m d : Int} {s s2 : zSg} (h : d ≤ m) (h2 : zfcI q p d (d + 1 - 0).toNat 0 s = (none, s2)) : zfcO q p (m + 1 - d).toNat d s = zfcO q p (m + 1 - (d + 1)).toNat (d + 1) s2 := by
  rw [show (m + 1 - d).toNat = (m + 1 - (d + 1)).toNat + 1 by omega]
  show (match zfcI q p d (d + 1 - 0).toNat 0 s with
    | (some c, s2) => (some c, s2)
    | (none, s2) => zfcO q p _ (d + 1) s2) = _
  rw [h2]
/-- what FIND does: first g's multiples; then f's, till one of them is one of g's -/
def zfnd (a b : Nat → Int) (p : Int) (R : Nat → Nat → Int) (l : Nat → Int) : zSg := zfor (zfill_out b p) 0 (R, fun _ => 0, l) (ztop a + 1 - 0).toNat
def zcofa (a b : Nat → Int) (p : Int) (R : Nat → Nat → Int) (l : Nat → Int) : Nat → Int := zoc (zfc a p (ztop b) (zfnd a b p R l)).1
/-- the COMMON PART -/
def zcom (a b : Nat → Int) (p : Int) (R : Nat → Nat → Int) (l : Nat → Int) : Nat → Int := znorm (zquo (zcofa a b p R l) b p).1 p
theorem zcom_can {a b : Nat → Int} {p : Int} {R : Nat → Nat → Int} {l : Nat → Int} (hp : 0 < p) : zcan p (zcom a b p R l) := znorm_can _ hp
def zsgOK (p : Int) (s : zSg) : Prop := (∀ i, zcan 31 (s.1 i)) ∧ zcan p s.2.2
theorem zsg_ok {p : Int} {l : Nat → Int} {s : zSg} (hp : 2 ≤ p ∧ p ≤ 31) (h : ∀ i, zcan 31 (s.1 i)) (hl : zcan p l) : zsgOK p (zsg p l s) := ⟨zspR_can (by omega) (by omega) h, zspan_can (by omega) (by omega) hl⟩
/-- a sharing at t, whose space stands at b -/
def zSh (cI : ClassId) (f : Nat → va_E) (t b : Nat) (cp cc cr l : Nat → Int) : Prop :=
  f t = .inr (6, [.ref (t + 1), .ref (t + 3), .ref (t + 5), .ref (t + 7), .ref b]) ∧ f (t + 1) = .inr (2, [.ref (t + 2)]) ∧ f (t + 2) = zA cI 25 cp ∧ f (t + 3) = .inr (2, [.ref (t + 4)]) ∧ f (t + 4) = zA cI 25 cc ∧ f (t + 5) = .inr (2, [.ref (t + 6)]) ∧ f (t + 6) = zA cI 25 cr ∧ f (t + 7) = zA cI 94 l
theorem zSh.same {cI : ClassId} {f g : Nat → va_E} {t b : Nat} {cp cc cr l : Nat → Int} (h : zSh cI f t b cp cc cr l) (hs : ∀ q, t ≤ q → q < t + 8 → g q = f q) : zSh cI g t b cp cc cr l :=
  ⟨(hs _ (by omega) (by omega)).trans h.1, (hs _ (by omega) (by omega)).trans h.2.1, (hs _ (by omega) (by omega)).trans h.2.2.1, (hs _ (by omega) (by omega)).trans h.2.2.2.1, (hs _ (by omega) (by omega)).trans h.2.2.2.2.1, (hs _ (by omega) (by omega)).trans h.2.2.2.2.2.1, (hs _ (by omega) (by omega)).trans h.2.2.2.2.2.2.1, (hs _ (by omega) (by omega)).trans h.2.2.2.2.2.2.2⟩
def zFrT (f g : Nat → va_E) (b t : Nat) : Prop := ∀ q, ¬ (b ≤ q ∧ q < b + 97) ∧ q ≠ t + 7 ∧ q ≠ t + 4 → g q = f q
def zFrS (f g : Nat → va_E) (b t : Nat) : Prop := ∀ q, ¬ (b ≤ q ∧ q < b + 97) ∧ ¬ (t ≤ q ∧ q < t + 8) → g q = f q
set_option maxRecDepth 100000 in
set_option maxHeartbeats 4000000 in
/-- Sharing.column -/
theorem c_column (l : Launch) {D : va_G} {cI cJ cZ cP cS cM : ClassId} {L : List Nat} {sz : Nat} {f : Nat → va_E} (i j : Int) (hi : 0 ≤ i ∧ i ≤ 200) (hj : 0 ≤ j ∧ j ≤ 200) : zMi l yX6_column wsX6_column 0 0 D (zT cI cJ cZ cP cS cM) L sz f [.int (zI i), .int (zI j)] (fun z g => z = zcol i j ∧ g = f) := by
  refine zWalk.met (nL := 3) (ret := (some .int)) (cc := cX6_column) (by decide) rfl (Nat.le_of_ble_eq_true rfl) ?_
  intro pg en st mi ag bl mt cd ls CX hW hl
  have CX : zC pg st mi ag mt cd cX6_column 3 (some .int) RX6 wsX6_column := CX
  generalize hQ : MQ bl _ ag st 0 0 _ = Q
  have hX0 := CX.1
  have hB0 := CX.2.1
  have hl : lv_has ls 3 [(0, .int (zI i)), (1, .int (zI j))] := hl
  obtain ⟨H, eH⟩ : ∃ H, H = st.heap := ⟨_, rfl⟩
  obtain ⟨locs, eL⟩ : ∃ L : List Loc, L = [] := ⟨_, rfl⟩
  have hW : zW D (zT cI cJ cZ cP cS cM) L (zQ L sz) st f st.heap H locs := by rw [eH, eL]; exact hW
  suffices hgo : W pg l en ({ frames := 0, cells := 0, slots := 0, locals := 0 } : Room) st mi ag bl mt cd H locs 0 0 Q (F0 mi 0 ls []) by rw [eH, eL] at hgo; exact hgo
  clear eH eL
  refine lv_iload_n hX0 hB0 dX6_column_0 rfl (lv_at hl 0 rfl) ?_
  refine lv_iload_n hX0 hB0 dX6_column_1 rfl (lv_at hl 1 rfl) ?_
  refine z_iadd (z := i + j) CX dX6_column_2 rfl ?_
  refine lv_istore_n (lv' := [(2, .int (zI (i + j))), (0, .int (zI i)), (1, .int (zI j))]) hX0 hB0 dX6_column_3 rfl hl (by decide) rfl (fun ls hl => ?_)
  have hm := zmul_rng (a := i + j) (b := i + j + 1) (A := 400) (B := 401) (by omega) (by omega)
  refine lv_iload_n hX0 hB0 dX6_column_4 rfl (lv_at hl 0 rfl) ?_
  refine lv_iload_n hX0 hB0 dX6_column_5 rfl (lv_at hl 0 rfl) ?_
  refine lv_iconst (v := zI 1) hX0 hB0 dX6_column_6 rfl ?_
  refine z_iadd (z := (i + j) + 1) CX dX6_column_7 rfl ?_
  refine z_imul (z := (i + j) * ((i + j) + 1)) CX dX6_column_8 rfl ?_
  refine lv_iconst (v := zI 2) hX0 hB0 dX6_column_9 rfl ?_
  refine z_idiv (z := (i + j) * (i + j + 1) / 2) CX dX6_column_10 (by constructor <;> omega) (by constructor <;> omega) (Int.tdiv_eq_ediv_of_nonneg hm.1) ?_
  refine lv_iload_n hX0 hB0 dX6_column_11 rfl (lv_at hl 2 rfl) ?_
  refine z_iadd (z := ((i + j) * (i + j + 1) / 2) + j) CX dX6_column_12 rfl ?_
  rw [← hQ]
  exact z_iret (z := ((i + j) * (i + j + 1) / 2) + j) CX hW (by exact ⟨rfl, rfl⟩) rfl dX6_column_13
set_option maxRecDepth 100000 in
set_option maxHeartbeats 4000000 in
/-- Sharing.setColumn -/
theorem c_setColumn (l : Launch) {D : va_G} {cI cJ cZ cP cS cM : ClassId} {L : List Nat} {sz : Nat} {f : Nat → va_E} (t b : Nat) (cp cc cr ln : Nat → Int) (k x : Int) (hT : zSh cI f t b cp cc cr ln) (hk : -2147483648 ≤ k ∧ k ≤ 2147483647) (hx : -2147483648 ≤ x ∧ x ≤ 2147483647) : zMv l yX6_setColumn wsX6_setColumn 0 0 D (zT cI cJ cZ cP cS cM) L sz f [.ref t, .int (zI k), .int (zI x)] (fun g => g = va_up f (t + 7) (zA cI 94 (zsc ln k x))) := by
  refine zWalk.met (nL := 3) (ret := none) (cc := cX6_setColumn) (by decide) rfl (Nat.le_of_ble_eq_true rfl) ?_
  intro pg en st mi ag bl mt cd ls CX hW hl
  have CX : zC pg st mi ag mt cd cX6_setColumn 3 none RX6 wsX6_setColumn := CX
  generalize hQ : MQ bl _ ag st 0 0 _ = Q
  have hX0 := CX.1
  have hB0 := CX.2.1
  have hl : lv_has ls 3 [(0, .ref t), (1, .int (zI k)), (2, .int (zI x))] := hl
  obtain ⟨H, eH⟩ : ∃ H, H = st.heap := ⟨_, rfl⟩
  obtain ⟨locs, eL⟩ : ∃ L : List Loc, L = [] := ⟨_, rfl⟩
  have hW : zW D (zT cI cJ cZ cP cS cM) L (zQ L sz) st f st.heap H locs := by rw [eH, eL]; exact hW
  suffices hgo : W pg l en ({ frames := 0, cells := 0, slots := 0, locals := 0 } : Room) st mi ag bl mt cd H locs 0 0 Q (F0 mi 0 ls []) by rw [eH, eL] at hgo; exact hgo
  clear eH eL
  refine lv_iload_n hX0 hB0 dX6_setColumn_0 rfl (lv_at hl 1 rfl) ?_
  refine z_if_lt (tgt := 24) CX dX6_setColumn_1 (by decide) (by constructor <;> omega) (fun c_1 => ?_) (fun c_1 => ?_)
  ·
    rw [← hQ]
    exact z_vret CX hW (by first | (unfold zsc; rw [if_neg (by omega)]; exact (va_up_id hT.2.2.2.2.2.2.2).symm) | (unfold zsc; rw [if_pos (by omega)])) dX6_setColumn_24
  ·
    refine lv_iload_n hX0 hB0 dX6_setColumn_4 rfl (lv_at hl 1 rfl) ?_
    refine lv_aload_n hX0 hB0 dX6_setColumn_5 rfl (lv_at hl 0 rfl) ?_
    refine z_get (Cn := RX6) (T := TX6) (N := 5) CX hW (v := .ref (t + 7)) hT.1 rfl (fun w h => List.mem_cons_of_mem _ (List.mem_append_right _ h)) 3 (by decide) (List.mem_of_getElem? (i := 1) rfl) rfl rfl dX6_setColumn_6 ?_
    refine z_alen (n := 94) CX hW hT.2.2.2.2.2.2.2 0 rfl rfl dX6_setColumn_9 ?_
    refine z_icmp_ge (tgt := 24) CX dX6_setColumn_10 (by decide) (by constructor <;> omega) (by constructor <;> omega) (fun c_10 => ?_) (fun c_10 => ?_)
    ·
      rw [← hQ]
      exact z_vret CX hW (by first | (unfold zsc; rw [if_neg (by omega)]; exact (va_up_id hT.2.2.2.2.2.2.2).symm) | (unfold zsc; rw [if_pos (by omega)])) dX6_setColumn_24
    ·
      refine lv_iload_n hX0 hB0 dX6_setColumn_13 rfl (lv_at hl 2 rfl) ?_
      refine z_if_eq (tgt := 24) CX dX6_setColumn_14 (by decide) (by constructor <;> omega) (fun c_14 => ?_) (fun c_14 => ?_)
      ·
        rw [← hQ]
        exact z_vret CX hW (by first | (unfold zsc; rw [if_neg (by omega)]; exact (va_up_id hT.2.2.2.2.2.2.2).symm) | (unfold zsc; rw [if_pos (by omega)])) dX6_setColumn_24
      ·
        refine lv_aload_n hX0 hB0 dX6_setColumn_17 rfl (lv_at hl 0 rfl) ?_
        refine z_get (Cn := RX6) (T := TX6) (N := 5) CX hW (v := .ref (t + 7)) hT.1 rfl (fun w h => List.mem_cons_of_mem _ (List.mem_append_right _ h)) 3 (by decide) (List.mem_of_getElem? (i := 1) rfl) rfl rfl dX6_setColumn_18 ?_
        refine lv_iload_n hX0 hB0 dX6_setColumn_21 rfl (lv_at hl 1 rfl) ?_
        refine lv_iload_n hX0 hB0 dX6_setColumn_22 rfl (lv_at hl 2 rfl) ?_
        refine z_iast CX hW hT.2.2.2.2.2.2.2 0 rfl (by refine ⟨?_, ?_, ?_⟩ <;> omega) (g := va_up f (t + 7) (zA cI 94 (zup ln k.toNat x))) rfl dX6_setColumn_23 (fun H locs hW => ?_)
        rw [← hQ]
        exact z_vret CX hW (by first | (unfold zsc; rw [if_neg (by omega)]; exact (va_up_id hT.2.2.2.2.2.2.2).symm) | (unfold zsc; rw [if_pos (by omega)])) dX6_setColumn_24
set_option maxRecDepth 100000 in
set_option maxHeartbeats 4000000 in
/-- Sharing.setLine -/
theorem c_setLine (l : Launch) {D : va_G} {cI cJ cZ cP cS cM : ClassId} {L : List Nat} {sz : Nat} {f : Nat → va_E} (t b : Nat) (cp cc cr ln : Nat → Int) (h0 h : Nat) (d : Nat → Int) (r u : Int) (hT : zSh cI f t b cp cc cr ln) (hf0 : f h0 = .inr (2, [.ref h])) (hf1 : f h = zA cI 25 d) (hd : zcan 31 d) (hh0 : h0 < t ∨ t + 8 ≤ h0) (hh : h < t ∨ t + 8 ≤ h) (hr : 0 ≤ r ∧ r ≤ 100) (hu : 0 ≤ u ∧ u ≤ 100) : zMv l yX6_setLine wsX6_setLine 2 43 D (zT cI cJ cZ cP cS cM) L sz f [.ref t, .ref h0, .int (zI r), .int (zI u)] (fun g => g = va_up f (t + 7) (zA cI 94 (zline d r u))) := by
  refine zWalk.met (nL := 6) (ret := none) (cc := cX6_setLine) (by decide) rfl (Nat.le_of_ble_eq_true rfl) ?_
  intro pg en st mi ag bl mt cd ls CX hW hl
  have CX : zC pg st mi ag mt cd cX6_setLine 6 none RX6 wsX6_setLine := CX
  generalize hQ : MQ bl _ ag st 0 0 _ = Q
  have hX0 := CX.1
  have hB0 := CX.2.1
  have hl : lv_has ls 6 [(0, .ref t), (1, .ref h0), (2, .int (zI r)), (3, .int (zI u))] := hl
  obtain ⟨H, eH⟩ : ∃ H, H = st.heap := ⟨_, rfl⟩
  obtain ⟨locs, eL⟩ : ∃ L : List Loc, L = [] := ⟨_, rfl⟩
  have hW : zW D (zT cI cJ cZ cP cS cM) L (zQ L sz) st f st.heap H locs := by rw [eH, eL]; exact hW
  suffices hgo : W pg l en ({ frames := 2, cells := 0, slots := 0, locals := 43 } : Room) st mi ag bl mt cd H locs 0 0 Q (F0 mi 0 ls []) by rw [eH, eL] at hgo; exact hgo
  clear eH eL
  refine lv_iconst (v := zI 0) hX0 hB0 dX6_setLine_0 rfl ?_
  refine lv_istore (lv' := [(4, .int (zI 0)), (0, .ref t), (1, .ref h0), (2, .int (zI r)), (3, .int (zI u))]) hX0 hB0 dX6_setLine_1 hl (by decide) rfl (fun ls hl => ?_)
  have hL3 : ∀ (fu : Nat) (k : Int) (cl : Nat → Int), (0 ≤ k ∧ k ≤ 94 ∧ ∀ j : Nat, (j : Int) < k → cl j = 0) → (94 - k).toNat < fu → ∀ (H : Heap) (locs : List Loc) (ls : Array Slot), zW D (zT cI cJ cZ cP cS cM) L (zQ L sz) st (va_up f (t + 7) (zA cI 94 cl)) st.heap H locs → lv_has ls 6 [(4, .int (zI k)), (0, .ref t), (1, .ref h0), (2, .int (zI r)), (3, .int (zI u))] → W pg l en ({ frames := 2, cells := 0, slots := 0, locals := 43 } : Room) st mi ag bl mt cd H locs 0 0 Q (F0 mi 3 ls []) := by
    intro fu
    induction fu with
    | zero => intro k cl _ hfu; exact absurd hfu (Nat.not_lt_zero _)
    | succ fu ih3 =>
      intro k cl hinv3 hfu3 H locs ls hW hl
      obtain ⟨hk0, hk1, hck⟩ := hinv3
      refine lv_iload hX0 hB0 dX6_setLine_3 (lv_at hl 0 rfl) ?_
      refine lv_aload_n hX0 hB0 dX6_setLine_5 rfl (lv_at hl 1 rfl) ?_
      refine z_get (Cn := RX6) (T := TX6) (N := 5) CX hW (v := .ref (t + 7)) ((va_up_ne _ _ (by omega)).trans hT.1) rfl (fun w h => List.mem_cons_of_mem _ (List.mem_append_left _ (List.mem_append_right _ h))) 3 (by decide) (List.mem_of_getElem? (i := 1) rfl) rfl rfl dX6_setLine_6 ?_
      refine z_alen (n := 94) CX hW (va_up_self _ _ _) 0 rfl rfl dX6_setLine_9 ?_
      refine z_icmp_ge (tgt := 27) CX dX6_setLine_10 (by decide) (by constructor <;> omega) (by constructor <;> omega) (fun c_10 => ?_) (fun c_10 => ?_)
      ·
        have hW := hW.same (d := fun _ => 0) (fun j hj => hck j (by omega))
        refine lv_iconst (v := zI 0) hX0 hB0 dX6_setLine_27 rfl ?_
        refine lv_istore (lv' := [(4, .int (zI 0)), (0, .ref t), (1, .ref h0), (2, .int (zI r)), (3, .int (zI u))]) hX0 hB0 dX6_setLine_28 hl (by decide) rfl (fun ls hl => ?_)
        have hL30 : ∀ (fu : Nat) (i : Int) (co : Nat → Int), (0 ≤ i ∧ (i ≤ 5 ∨ i = 0) ∧ co = zfor (zline_out d r u) 0 ((fun _ => 0)) (i - 0).toNat ∧ True) → (5 - i).toNat < fu → ∀ (H : Heap) (locs : List Loc) (ls : Array Slot), zW D (zT cI cJ cZ cP cS cM) L (zQ L sz) st (va_up f (t + 7) (zA cI 94 co)) st.heap H locs → lv_has ls 6 [(4, .int (zI i)), (0, .ref t), (1, .ref h0), (2, .int (zI r)), (3, .int (zI u))] → W pg l en ({ frames := 2, cells := 0, slots := 0, locals := 43 } : Room) st mi ag bl mt cd H locs 0 0 Q (F0 mi 30 ls []) := by
          intro fu
          induction fu with
          | zero => intro i co _ hfu; exact absurd hfu (Nat.not_lt_zero _)
          | succ fu ih30 =>
            intro i co hinv30 hfu30 H locs ls hW hl
            obtain ⟨hi0, hi1, heco, -⟩ := hinv30
            refine lv_iload hX0 hB0 dX6_setLine_30 (lv_at hl 0 rfl) ?_
            refine lv_iconst (v := zI 4) hX0 hB0 dX6_setLine_32 rfl ?_
            refine z_icmp_gt (tgt := 83) CX dX6_setLine_33 (by decide) (by constructor <;> omega) (by constructor <;> omega) (fun c_33 => ?_) (fun c_33 => ?_)
            ·
              rw [← hQ]
              exact z_vret CX hW (by rw [heco, show (i - 0).toNat = (5 - 0 : Int).toNat by omega]; rfl) dX6_setLine_83
            ·
              refine lv_iconst (v := zI 0) hX0 hB0 dX6_setLine_36 rfl ?_
              refine lv_istore (lv' := [(5, .int (zI 0)), (4, .int (zI i)), (0, .ref t), (1, .ref h0), (2, .int (zI r)), (3, .int (zI u))]) hX0 hB0 dX6_setLine_37 hl (by decide) rfl (fun ls hl => ?_)
              have hL39 : ∀ (fu : Nat) (j : Int) (ce : Nat → Int), (0 ≤ j ∧ (j ≤ 4 - i + 1 ∨ j = 0) ∧ ce = zfor (zline_in d r u i) 0 co (j - 0).toNat ∧ True) → (4 - i + 1 - j).toNat < fu → ∀ (H : Heap) (locs : List Loc) (ls : Array Slot), zW D (zT cI cJ cZ cP cS cM) L (zQ L sz) st (va_up f (t + 7) (zA cI 94 ce)) st.heap H locs → lv_has ls 6 [(5, .int (zI j)), (4, .int (zI i)), (0, .ref t), (1, .ref h0), (2, .int (zI r)), (3, .int (zI u))] → W pg l en ({ frames := 2, cells := 0, slots := 0, locals := 43 } : Room) st mi ag bl mt cd H locs 0 0 Q (F0 mi 39 ls []) := by
                intro fu
                induction fu with
                | zero => intro j ce _ hfu; exact absurd hfu (Nat.not_lt_zero _)
                | succ fu ih39 =>
                  intro j ce hinv39 hfu39 H locs ls hW hl
                  obtain ⟨hj0, hj1, hece, -⟩ := hinv39
                  refine lv_iload hX0 hB0 dX6_setLine_39 (lv_at hl 0 rfl) ?_
                  refine lv_iconst (v := zI 4) hX0 hB0 dX6_setLine_41 rfl ?_
                  refine lv_iload hX0 hB0 dX6_setLine_42 (lv_at hl 1 rfl) ?_
                  refine z_isub (z := 4 - i) CX dX6_setLine_44 rfl ?_
                  refine z_icmp_gt (tgt := 77) CX dX6_setLine_45 (by decide) (by constructor <;> omega) (by constructor <;> omega) (fun c_45 => ?_) (fun c_45 => ?_)
                  ·
                    refine lv_iinc (v := zI (i + 1)) (lv' := [(4, .int (zI (i + 1))), (5, .int (zI j)), (0, .ref t), (1, .ref h0), (2, .int (zI r)), (3, .int (zI u))]) hX0 hB0 dX6_setLine_77 hl (k := 1) rfl (zI_add _ _) (by decide) rfl (fun ls hl => ?_)
                    refine lv_goto (tgt := 30) hX0 hB0 dX6_setLine_80 (by decide) ?_
                    exact ih30 (i + 1) ce ⟨by omega, by omega, by rw [zfor_s _ _ _ hi0, ← heco]; rw [hece]; show zfor _ 0 co _ = zfor _ 0 co _; congr 1; omega, trivial⟩ (by omega) H locs ls hW (lv_sub hl [0, 2, 3, 4, 5] rfl)
                  ·
                    refine lv_aload_n hX0 hB0 dX6_setLine_48 rfl (lv_at hl 2 rfl) ?_
                    refine lv_iload hX0 hB0 dX6_setLine_49 (lv_at hl 1 rfl) ?_
                    refine lv_iload_n hX0 hB0 dX6_setLine_51 rfl (lv_at hl 4 rfl) ?_
                    refine z_iadd (z := i + r) CX dX6_setLine_52 rfl ?_
                    refine lv_iload hX0 hB0 dX6_setLine_53 (lv_at hl 0 rfl) ?_
                    refine lv_iload_n hX0 hB0 dX6_setLine_55 rfl (lv_at hl 5 rfl) ?_
                    refine z_iadd (z := j + u) CX dX6_setLine_56 rfl ?_
                    refine z_calli hW (va_runS (As := [.int (zI (i + r)), .int (zI (j + u))]) (rest := [.ref t]) CX.fix (c_column l (f := va_up f (t + 7) (zA cI 94 ce)) (i + r) (j + u) (by omega) (by omega)) (va_cwS 2 CX.fix.2.2.2.2 gX6_setLine_X6_column rfl rfl rfl (by decide +kernel) ⟨Nat.le_of_ble_eq_true rfl, Nat.le_of_ble_eq_true rfl⟩) (z_preS CX hW) rfl rfl hl.1 rfl (lv_room (Nat.le_of_ble_eq_true rfl)) dX6_setLine_57 ⟨Nat.zero_le _, Nat.zero_le _⟩) (fun zv gn H locs hok57 hW => ?_)
                    obtain ⟨ez, eg⟩ := hok57
                    have eg : gn = va_up f (t + 7) (zA cI 94 ce) := eg
                    rw [eg] at hW
                    clear eg
                    have ez : zv = zcol (i + r) (j + u) := ez
                    rw [ez]
                    clear ez
                    have hcl57 := zcol_rng (i := i + r) (j := j + u) (by omega) (by omega)
                    refine lv_aload_n hX0 hB0 dX6_setLine_60 rfl (lv_at hl 3 rfl) ?_
                    refine lv_iload hX0 hB0 dX6_setLine_61 (lv_at hl 1 rfl) ?_
                    refine lv_iload hX0 hB0 dX6_setLine_63 (lv_at hl 0 rfl) ?_
                    refine z_calli hW (va_runV (C := RX2) (As := [.int (zI i), .int (zI j)]) (rest := [.int (zI (zcol (i + r) (j + u))), .ref t]) CX.fix (c_at l (f := va_up f (t + 7) (zA cI 94 ce)) h0 h d i j ((va_up_ne _ _ (by omega)).trans hf0) ((va_up_ne _ _ (by omega)).trans hf1) (by constructor <;> omega) (by constructor <;> omega)) (cwV 2 CX.fix.2.2.2.2 gX6_setLine_X2_at rfl rfl rfl (by decide +kernel) ⟨Nat.le_of_ble_eq_true rfl, Nat.le_of_ble_eq_true rfl⟩) (z_preV CX hW (r := (RX2, TX2, 1)) ((va_up_ne _ _ (by omega)).trans hf0) rfl) rfl rfl hl.1 rfl (lv_room (Nat.le_of_ble_eq_true rfl)) dX6_setLine_65 ⟨Nat.zero_le _, Nat.zero_le _⟩) (fun zv gn H locs hok65 hW => ?_)
                    obtain ⟨ez, eg⟩ := hok65
                    have eg : gn = va_up f (t + 7) (zA cI 94 ce) := eg
                    rw [eg] at hW
                    clear eg
                    have ez : zv = zat d i j := ez
                    rw [ez]
                    clear ez
                    have hat := zat_can (p := 31) (by omega) hd i j
                    refine z_callv hW (va_runV (C := RX6) (As := [.int (zI (zcol (i + r) (j + u))), .int (zI (zat d i j))]) (rest := []) CX.fix (c_setColumn l (f := va_up f (t + 7) (zA cI 94 ce)) t b cp cc cr ce (zcol (i + r) (j + u)) (zat d i j) ⟨((va_up_ne _ _ (by omega)).trans hT.1), ((va_up_ne _ _ (by omega)).trans hT.2.1), ((va_up_ne _ _ (by omega)).trans hT.2.2.1), ((va_up_ne _ _ (by omega)).trans hT.2.2.2.1), ((va_up_ne _ _ (by omega)).trans hT.2.2.2.2.1), ((va_up_ne _ _ (by omega)).trans hT.2.2.2.2.2.1), ((va_up_ne _ _ (by omega)).trans hT.2.2.2.2.2.2.1), (va_up_self _ _ _)⟩ (by constructor <;> omega) (by constructor <;> omega)) (cwV 2 CX.fix.2.2.2.2 gX6_setLine_X6_setColumn rfl rfl rfl (by decide +kernel) ⟨Nat.le_of_ble_eq_true rfl, Nat.le_of_ble_eq_true rfl⟩) (z_preV CX hW (r := (RX6, TX6, 5)) ((va_up_ne _ _ (by omega)).trans hT.1) rfl) rfl rfl hl.1 rfl (lv_room (Nat.le_of_ble_eq_true rfl)) dX6_setLine_68 ⟨Nat.zero_le _, Nat.zero_le _⟩) (fun gn H locs hok68 hW => ?_)
                    have eg : gn = va_up f (t + 7) (zA cI 94 (zsc ce (zcol (i + r) (j + u)) (zat d i j))) := (hok68).trans va_up_up
                    rw [eg] at hW
                    clear eg
                    refine lv_iinc (v := zI (j + 1)) (lv' := [(5, .int (zI (j + 1))), (4, .int (zI i)), (0, .ref t), (1, .ref h0), (2, .int (zI r)), (3, .int (zI u))]) hX0 hB0 dX6_setLine_71 hl (k := 0) rfl (zI_add _ _) (by decide) rfl (fun ls hl => ?_)
                    refine lv_goto (tgt := 39) hX0 hB0 dX6_setLine_74 (by decide) ?_
                    exact ih39 (j + 1) (zsc ce (zcol (i + r) (j + u)) (zat d i j)) ⟨by omega, by omega, by rw [zfor_s _ _ _ hj0, ← hece]; rfl, trivial⟩ (by omega) H locs ls hW (lv_sub hl [0, 1, 2, 3, 4, 5] rfl)
              exact hL39 _ 0 co ⟨by omega, Or.inr rfl, (zfor_0 _ _ _).symm, trivial⟩ (Nat.lt_succ_self _) H locs ls hW (lv_sub hl [0, 1, 2, 3, 4, 5] rfl)
        exact hL30 _ 0 ((fun _ => 0)) ⟨by omega, Or.inr rfl, (zfor_0 _ _ _).symm, trivial⟩ (Nat.lt_succ_self _) H locs ls hW (lv_sub hl [0, 1, 2, 3, 4] rfl)
      ·
        refine lv_aload_n hX0 hB0 dX6_setLine_13 rfl (lv_at hl 1 rfl) ?_
        refine z_get (Cn := RX6) (T := TX6) (N := 5) CX hW (v := .ref (t + 7)) ((va_up_ne _ _ (by omega)).trans hT.1) rfl (fun w h => List.mem_cons_of_mem _ (List.mem_append_left _ (List.mem_append_right _ h))) 3 (by decide) (List.mem_of_getElem? (i := 1) rfl) rfl rfl dX6_setLine_14 ?_
        refine lv_iload hX0 hB0 dX6_setLine_17 (lv_at hl 0 rfl) ?_
        refine lv_iconst (v := zI 0) hX0 hB0 dX6_setLine_19 rfl ?_
        refine z_iast CX hW (va_up_self _ _ _) 0 rfl (by refine ⟨?_, ?_, ?_⟩ <;> omega) (g := va_up f (t + 7) (zA cI 94 (zup cl k.toNat 0))) va_up_up dX6_setLine_20 (fun H locs hW => ?_)
        refine lv_iinc (v := zI (k + 1)) (lv' := [(4, .int (zI (k + 1))), (0, .ref t), (1, .ref h0), (2, .int (zI r)), (3, .int (zI u))]) hX0 hB0 dX6_setLine_21 hl (k := 0) rfl (zI_add _ _) (by decide) rfl (fun ls hl => ?_)
        refine lv_goto (tgt := 3) hX0 hB0 dX6_setLine_24 (by decide) ?_
        exact ih3 (k + 1) (zup cl k.toNat 0) ⟨by omega, by omega, zup_step (b := cl) (q := fun _ => 0) hck hk0 rfl⟩ (by omega) H locs ls hW (lv_sub hl [0, 1, 2, 3, 4] rfl)
  have hW := hW
  rw [show f = va_up f (t + 7) (zA cI 94 ln) from by rw [va_up_id (a := (t + 7)) hT.2.2.2.2.2.2.2]] at hW
  exact hL3 _ 0 ln ⟨by omega, by omega, fun j hj => by omega⟩ (Nat.lt_succ_self _) H locs ls hW (lv_sub hl [0, 1, 2, 3, 4] rfl)
set_option maxRecDepth 100000 in
set_option maxHeartbeats 4000000 in
/-- Sharing.takeCofactor -/
theorem c_takeCofactor (l : Launch) {D : va_G} {cI cJ cZ cP cS cM : ClassId} {L : List Nat} {sz : Nat} {f : Nat → va_E} (t b : Nat) (cp cc cr ln : Nat → Int) (hT : zSh cI f t b cp cc cr ln) : zMv l yX6_takeCofactor wsX6_takeCofactor 2 44 D (zT cI cJ cZ cP cS cM) L sz f [.ref t] (fun g => g = va_up f (t + 4) (zA cI 25 (ztake ln cc))) := by
  refine zWalk.met (nL := 3) (ret := none) (cc := cX6_takeCofactor) (by decide) rfl (Nat.le_of_ble_eq_true rfl) ?_
  intro pg en st mi ag bl mt cd ls CX hW hl
  have CX : zC pg st mi ag mt cd cX6_takeCofactor 3 none RX6 wsX6_takeCofactor := CX
  generalize hQ : MQ bl _ ag st 0 0 _ = Q
  have hX0 := CX.1
  have hB0 := CX.2.1
  have hl : lv_has ls 3 [(0, .ref t)] := hl
  obtain ⟨H, eH⟩ : ∃ H, H = st.heap := ⟨_, rfl⟩
  obtain ⟨locs, eL⟩ : ∃ L : List Loc, L = [] := ⟨_, rfl⟩
  have hW : zW D (zT cI cJ cZ cP cS cM) L (zQ L sz) st f st.heap H locs := by rw [eH, eL]; exact hW
  suffices hgo : W pg l en ({ frames := 2, cells := 0, slots := 0, locals := 44 } : Room) st mi ag bl mt cd H locs 0 0 Q (F0 mi 0 ls []) by rw [eH, eL] at hgo; exact hgo
  clear eH eL
  refine lv_iconst (v := zI 0) hX0 hB0 dX6_takeCofactor_0 rfl ?_
  refine lv_istore_n (lv' := [(1, .int (zI 0)), (0, .ref t)]) hX0 hB0 dX6_takeCofactor_1 rfl hl (by decide) rfl (fun ls hl => ?_)
  have hL2 : ∀ (fu : Nat) (i : Int) (co : Nat → Int), (0 ≤ i ∧ (i ≤ 5 ∨ i = 0) ∧ co = zfor (ztake_out ln) 0 cc (i - 0).toNat ∧ True) → (5 - i).toNat < fu → ∀ (H : Heap) (locs : List Loc) (ls : Array Slot), zW D (zT cI cJ cZ cP cS cM) L (zQ L sz) st (va_up f (t + 4) (zA cI 25 co)) st.heap H locs → lv_has ls 3 [(1, .int (zI i)), (0, .ref t)] → W pg l en ({ frames := 2, cells := 0, slots := 0, locals := 44 } : Room) st mi ag bl mt cd H locs 0 0 Q (F0 mi 2 ls []) := by
    intro fu
    induction fu with
    | zero => intro i co _ hfu; exact absurd hfu (Nat.not_lt_zero _)
    | succ fu ih2 =>
      intro i co hinv2 hfu2 H locs ls hW hl
      obtain ⟨hi0, hi1, heco, -⟩ := hinv2
      refine lv_iload_n hX0 hB0 dX6_takeCofactor_2 rfl (lv_at hl 0 rfl) ?_
      refine lv_iconst (v := zI 4) hX0 hB0 dX6_takeCofactor_3 rfl ?_
      refine z_icmp_gt (tgt := 50) CX dX6_takeCofactor_4 (by decide) (by constructor <;> omega) (by constructor <;> omega) (fun c_4 => ?_) (fun c_4 => ?_)
      ·
        rw [← hQ]
        exact z_vret CX hW (by rw [heco, show (i - 0).toNat = (5 - 0 : Int).toNat by omega]; rfl) dX6_takeCofactor_50
      ·
        refine lv_iconst (v := zI 0) hX0 hB0 dX6_takeCofactor_7 rfl ?_
        refine lv_istore_n (lv' := [(2, .int (zI 0)), (1, .int (zI i)), (0, .ref t)]) hX0 hB0 dX6_takeCofactor_8 rfl hl (by decide) rfl (fun ls hl => ?_)
        have hL9 : ∀ (fu : Nat) (j : Int) (ce : Nat → Int), (0 ≤ j ∧ (j ≤ 4 - i + 1 ∨ j = 0) ∧ ce = zfor (ztake_in ln i) 0 co (j - 0).toNat ∧ True) → (4 - i + 1 - j).toNat < fu → ∀ (H : Heap) (locs : List Loc) (ls : Array Slot), zW D (zT cI cJ cZ cP cS cM) L (zQ L sz) st (va_up f (t + 4) (zA cI 25 ce)) st.heap H locs → lv_has ls 3 [(2, .int (zI j)), (1, .int (zI i)), (0, .ref t)] → W pg l en ({ frames := 2, cells := 0, slots := 0, locals := 44 } : Room) st mi ag bl mt cd H locs 0 0 Q (F0 mi 9 ls []) := by
          intro fu
          induction fu with
          | zero => intro j ce _ hfu; exact absurd hfu (Nat.not_lt_zero _)
          | succ fu ih9 =>
            intro j ce hinv9 hfu9 H locs ls hW hl
            obtain ⟨hj0, hj1, hece, -⟩ := hinv9
            refine lv_iload_n hX0 hB0 dX6_takeCofactor_9 rfl (lv_at hl 0 rfl) ?_
            refine lv_iconst (v := zI 4) hX0 hB0 dX6_takeCofactor_10 rfl ?_
            refine lv_iload_n hX0 hB0 dX6_takeCofactor_11 rfl (lv_at hl 1 rfl) ?_
            refine z_isub (z := 4 - i) CX dX6_takeCofactor_12 rfl ?_
            refine z_icmp_gt (tgt := 44) CX dX6_takeCofactor_13 (by decide) (by constructor <;> omega) (by constructor <;> omega) (fun c_13 => ?_) (fun c_13 => ?_)
            ·
              refine lv_iinc (v := zI (i + 1)) (lv' := [(1, .int (zI (i + 1))), (2, .int (zI j)), (0, .ref t)]) hX0 hB0 dX6_takeCofactor_44 hl (k := 1) rfl (zI_add _ _) (by decide) rfl (fun ls hl => ?_)
              refine lv_goto (tgt := 2) hX0 hB0 dX6_takeCofactor_47 (by decide) ?_
              exact ih2 (i + 1) ce ⟨by omega, by omega, by rw [zfor_s _ _ _ hi0, ← heco]; rw [hece]; show zfor _ 0 co _ = zfor _ 0 co _; congr 1; omega, trivial⟩ (by omega) H locs ls hW (lv_sub hl [0, 2] rfl)
            ·
              refine lv_aload_n hX0 hB0 dX6_takeCofactor_16 rfl (lv_at hl 2 rfl) ?_
              refine z_get (Cn := RX6) (T := TX6) (N := 5) CX hW (v := .ref (t + 3)) ((va_up_ne _ _ (by omega)).trans hT.1) rfl (fun w h => List.mem_cons_of_mem _ (List.mem_append_left _ (List.mem_append_right _ h))) 1 (by decide) (List.mem_of_getElem? (i := 1) rfl) rfl rfl dX6_takeCofactor_17 ?_
              refine lv_iload_n hX0 hB0 dX6_takeCofactor_20 rfl (lv_at hl 1 rfl) ?_
              refine lv_iload_n hX0 hB0 dX6_takeCofactor_21 rfl (lv_at hl 0 rfl) ?_
              refine lv_aload_n hX0 hB0 dX6_takeCofactor_22 rfl (lv_at hl 2 rfl) ?_
              refine z_get (Cn := RX6) (T := TX6) (N := 5) CX hW (v := .ref (t + 7)) ((va_up_ne _ _ (by omega)).trans hT.1) rfl (fun w h => List.mem_cons_of_mem _ (List.mem_append_left _ (List.mem_append_right _ h))) 3 (by decide) (List.mem_of_getElem? (i := 2) rfl) rfl rfl dX6_takeCofactor_23 ?_
              refine lv_bipush (v := zI 45) hX0 hB0 dX6_takeCofactor_26 (by decide) ?_
              refine lv_iload_n hX0 hB0 dX6_takeCofactor_28 rfl (lv_at hl 1 rfl) ?_
              refine lv_iload_n hX0 hB0 dX6_takeCofactor_29 rfl (lv_at hl 0 rfl) ?_
              refine z_calli hW (va_runS (As := [.int (zI i), .int (zI j)]) (rest := [.int (zI 45), .ref (t + 7), .int (zI j), .int (zI i), .ref (t + 3)]) CX.fix (c_column l (f := va_up f (t + 4) (zA cI 25 ce)) i j (by omega) (by omega)) (va_cwS 2 CX.fix.2.2.2.2 gX6_takeCofactor_X6_column rfl rfl rfl (by decide +kernel) ⟨Nat.le_of_ble_eq_true rfl, Nat.le_of_ble_eq_true rfl⟩) (z_preS CX hW) rfl rfl hl.1 rfl (lv_room (Nat.le_of_ble_eq_true rfl)) dX6_takeCofactor_30 ⟨Nat.zero_le _, Nat.zero_le _⟩) (fun zv gn H locs hok30 hW => ?_)
              obtain ⟨ez, eg⟩ := hok30
              have eg : gn = va_up f (t + 4) (zA cI 25 ce) := eg
              rw [eg] at hW
              clear eg
              have ez : zv = zcol i j := ez
              rw [ez]
              clear ez
              have hcl30 := zcol_rng (i := i) (j := j) (by omega) (by omega)
              have hc8 := zcol_8 (i := i) (j := j) (by omega) (by omega) (by omega)
              refine z_iadd (z := 45 + (zcol i j)) CX dX6_takeCofactor_33 rfl ?_
              refine z_iald (z := ln ((45 + (zcol i j)).toNat)) CX hW ((va_up_ne _ _ (by omega)).trans hT.2.2.2.2.2.2.2) 0 rfl (by refine ⟨?_, ?_, ?_⟩ <;> omega) rfl dX6_takeCofactor_34 ?_
              refine z_callv hW (va_runV (C := RX2) (As := [.int (zI i), .int (zI j), .int (zI (ln ((45 + (zcol i j)).toNat)))]) (rest := []) CX.fix (c_put l (f := va_up f (t + 4) (zA cI 25 ce)) (t + 3) (t + 4) ce i j (ln ((45 + (zcol i j)).toNat)) ((va_up_ne _ _ (by omega)).trans hT.2.2.2.1) (va_up_self _ _ _) (by constructor <;> omega) (by constructor <;> omega)) (cwV 3 CX.fix.2.2.2.2 gX6_takeCofactor_X2_put rfl rfl rfl (by decide +kernel) ⟨Nat.le_of_ble_eq_true rfl, Nat.le_of_ble_eq_true rfl⟩) (z_preV CX hW (r := (RX2, TX2, 1)) ((va_up_ne _ _ (by omega)).trans hT.2.2.2.1) rfl) rfl rfl hl.1 rfl (lv_room (Nat.le_of_ble_eq_true rfl)) dX6_takeCofactor_35 ⟨Nat.zero_le _, Nat.zero_le _⟩) (fun gn H locs hok35 hW => ?_)
              have eg : gn = va_up f (t + 4) (zA cI 25 (zput ce i j (ln ((45 + (zcol i j)).toNat)))) := (hok35).trans va_up_up
              rw [eg] at hW
              clear eg
              refine lv_iinc (v := zI (j + 1)) (lv' := [(2, .int (zI (j + 1))), (1, .int (zI i)), (0, .ref t)]) hX0 hB0 dX6_takeCofactor_38 hl (k := 0) rfl (zI_add _ _) (by decide) rfl (fun ls hl => ?_)
              refine lv_goto (tgt := 9) hX0 hB0 dX6_takeCofactor_41 (by decide) ?_
              exact ih9 (j + 1) (zput ce i j (ln ((45 + (zcol i j)).toNat))) ⟨by omega, by omega, by rw [zfor_s _ _ _ hj0, ← hece]; rfl, trivial⟩ (by omega) H locs ls hW (lv_sub hl [0, 1, 2] rfl)
        exact hL9 _ 0 co ⟨by omega, Or.inr rfl, (zfor_0 _ _ _).symm, trivial⟩ (Nat.lt_succ_self _) H locs ls hW (lv_sub hl [0, 1, 2] rfl)
  have hW := hW
  rw [show f = va_up f (t + 4) (zA cI 25 cc) from by rw [va_up_id (a := (t + 4)) hT.2.2.2.2.1]] at hW
  exact hL2 _ 0 cc ⟨by omega, Or.inr rfl, (zfor_0 _ _ _).symm, trivial⟩ (Nat.lt_succ_self _) H locs ls hW (lv_sub hl [0, 1] rfl)
set_option maxRecDepth 100000 in
set_option maxHeartbeats 4000000 in
/-- Sharing.findCofactor -/
theorem c_findCofactor (l : Launch) {D : va_G} {cI cJ cZ cP cS cM : ClassId} {L : List Nat} {sz : Nat} {f : Nat → va_E} (t b : Nat) (cp cc cr ln : Nat → Int) (h0 h : Nat) (d : Nat → Int) (p : Int) (R : Nat → Nat → Int) (K : Nat → Int) (m : Int) (hT : zSh cI f t b cp cc cr ln) (hf0 : f h0 = .inr (2, [.ref h])) (hf1 : f h = zA cI 25 d) (hd : zcan p d) (hh0 : h0 < t ∨ t + 8 ≤ h0) (hh : h < t ∨ t + 8 ≤ h) (hS : zSpace cI cZ cM f b 60 45 p R K) (hR : ∀ i, zcan 31 (R i)) (hp : 2 ≤ p ∧ p ≤ 31) (hbt : b + 97 ≤ t ∨ t + 8 ≤ b) (hb0 : h0 < b ∨ b + 97 ≤ h0) (hb1 : h < b ∨ b + 97 ≤ h) (hm : -1 ≤ m ∧ m ≤ 8) : zMv l yX6_findCofactor wsX6_findCofactor 3 72 D (zT cI cJ cZ cP cS cM) L sz f [.ref t, .ref h0, .int (zI m)] (fun g => zFrT f g b t ∧ zSpace cI cZ cM g b 60 45 p (zfc d p m (R, K, ln)).2.1 (zfc d p m (R, K, ln)).2.2.1 ∧ g (t + 7) = zA cI 94 (zfc d p m (R, K, ln)).2.2.2 ∧ g (t + 4) = zA cI 25 (zoc (zfc d p m (R, K, ln)).1) ∧ (∀ i, zcan 31 ((zfc d p m (R, K, ln)).2.1 i)) ∧ zcan p (zoc (zfc d p m (R, K, ln)).1)) := by
  refine zWalk.met (nL := 5) (ret := none) (cc := cX6_findCofactor) (by decide) rfl (Nat.le_of_ble_eq_true rfl) ?_
  intro pg en st mi ag bl mt cd ls CX hW hl
  have CX : zC pg st mi ag mt cd cX6_findCofactor 5 none RX6 wsX6_findCofactor := CX
  generalize hQ : MQ bl _ ag st 0 0 _ = Q
  have hX0 := CX.1
  have hB0 := CX.2.1
  have hl : lv_has ls 5 [(0, .ref t), (1, .ref h0), (2, .int (zI m))] := hl
  obtain ⟨H, eH⟩ : ∃ H, H = st.heap := ⟨_, rfl⟩
  obtain ⟨locs, eL⟩ : ∃ L : List Loc, L = [] := ⟨_, rfl⟩
  have hW : zW D (zT cI cJ cZ cP cS cM) L (zQ L sz) st f st.heap H locs := by rw [eH, eL]; exact hW
  suffices hgo : W pg l en ({ frames := 3, cells := 0, slots := 0, locals := 72 } : Room) st mi ag bl mt cd H locs 0 0 Q (F0 mi 0 ls []) by rw [eH, eL] at hgo; exact hgo
  clear eH eL
  refine lv_aload_n hX0 hB0 dX6_findCofactor_0 rfl (lv_at hl 0 rfl) ?_
  refine z_get (Cn := RX6) (T := TX6) (N := 5) CX hW (v := .ref (t + 3)) hT.1 rfl (fun w h => List.mem_cons_of_mem _ (List.mem_append_left _ (List.mem_append_left _ (List.mem_append_right _ h)))) 1 (by decide) (List.mem_of_getElem? (i := 1) rfl) rfl rfl dX6_findCofactor_1 ?_
  refine lv_iconst (v := zI 1) hX0 hB0 dX6_findCofactor_4 rfl ?_
  refine z_callv hW (va_runV (C := RX2) (As := [.int (zI 1)]) (rest := []) CX.fix (c_setTo l (f := f) (t + 3) (t + 4) cc 1 hT.2.2.2.1 hT.2.2.2.2.1) (cwV 1 CX.fix.2.2.2.2 gX6_findCofactor_X2_setTo rfl rfl rfl (by decide +kernel) ⟨Nat.le_of_ble_eq_true rfl, Nat.le_of_ble_eq_true rfl⟩) (z_preV CX hW (r := (RX2, TX2, 1)) hT.2.2.2.1 rfl) rfl rfl hl.1 rfl (lv_room (Nat.le_of_ble_eq_true rfl)) dX6_findCofactor_5 ⟨Nat.zero_le _, Nat.zero_le _⟩) (fun gn H locs hok5 hW => ?_)
  have eg : gn = va_up f (t + 4) (zA cI 25 (zone 1)) := hok5
  rw [eg] at hW
  clear eg
  refine lv_iconst (v := zI 0) hX0 hB0 dX6_findCofactor_8 rfl ?_
  refine lv_istore_n (lv' := [(3, .int (zI 0)), (0, .ref t), (1, .ref h0), (2, .int (zI m))]) hX0 hB0 dX6_findCofactor_9 rfl hl (by decide) rfl (fun ls hl => ?_)
  have hL10 : ∀ (fu : Nat) (e : Int) (g : Nat → va_E) (R1 : Nat → Nat → Int) (K1 : Nat → Int) (l1 : Nat → Int), (zFrT f g b t ∧ zSpace cI cZ cM g b 60 45 p R1 K1 ∧ g (t + 7) = zA cI 94 l1 ∧ g (t + 4) = zA cI 25 (zone 1) ∧ (∀ i, zcan 31 (R1 i)) ∧ 0 ≤ e ∧ (e ≤ m + 1 ∨ e = 0) ∧ zfc d p m (R, K, ln) = zfcO d p (m + 1 - e).toNat e (R1, K1, l1)) → (m + 1 - e).toNat < fu → ∀ (H : Heap) (locs : List Loc) (ls : Array Slot), zW D (zT cI cJ cZ cP cS cM) L (zQ L sz) st g st.heap H locs → lv_has ls 5 [(3, .int (zI e)), (0, .ref t), (1, .ref h0), (2, .int (zI m))] → W pg l en ({ frames := 3, cells := 0, slots := 0, locals := 72 } : Room) st mi ag bl mt cd H locs 0 0 Q (F0 mi 10 ls []) := by
    intro fu
    induction fu with
    | zero => intro e g R1 K1 l1 _ hfu; exact absurd hfu (Nat.not_lt_zero _)
    | succ fu ih10 =>
      intro e g R1 K1 l1 hinv10 hfu10 H locs ls hW hl
      obtain ⟨hfr, hsp, hln, hco, hR1, he0, he1, hez⟩ := hinv10
      refine lv_iload_n hX0 hB0 dX6_findCofactor_10 rfl (lv_at hl 0 rfl) ?_
      refine lv_iload_n hX0 hB0 dX6_findCofactor_11 rfl (lv_at hl 3 rfl) ?_
      refine z_icmp_gt (tgt := 83) CX dX6_findCofactor_12 (by decide) (by constructor <;> omega) (by constructor <;> omega) (fun c_12 => ?_) (fun c_12 => ?_)
      ·
        rw [← hQ]
        refine z_vret CX hW ?_ dX6_findCofactor_83
        have hfz : zfc d p m (R, K, ln) = (none, (R1, K1, l1)) := by rw [hez, show (m + 1 - e).toNat = 0 by omega]; rfl
        rw [hfz]
        exact ⟨hfr, hsp, hln, hco, hR1, zone_can (by omega) (by omega)⟩
      ·
        obtain ⟨S0, hS0⟩ : ∃ q : zSg, q = (R1, K1, l1) := ⟨_, rfl⟩
        rw [← hS0] at hez
        refine lv_iconst (v := zI 0) hX0 hB0 dX6_findCofactor_15 rfl ?_
        refine lv_istore (lv' := [(4, .int (zI 0)), (3, .int (zI e)), (0, .ref t), (1, .ref h0), (2, .int (zI m))]) hX0 hB0 dX6_findCofactor_16 hl (by decide) rfl (fun ls hl => ?_)
        have hL18 : ∀ (fu : Nat) (j : Int) (g : Nat → va_E) (R1 : Nat → Nat → Int) (K1 : Nat → Int) (l1 : Nat → Int), (zFrT f g b t ∧ zSpace cI cZ cM g b 60 45 p R1 K1 ∧ g (t + 7) = zA cI 94 l1 ∧ g (t + 4) = zA cI 25 (zone 1) ∧ (∀ i, zcan 31 (R1 i)) ∧ 0 ≤ j ∧ j ≤ e + 1 ∧ zfcI d p e (e + 1 - 0).toNat 0 S0 = zfcI d p e (e + 1 - j).toNat j (R1, K1, l1)) → (e + 1 - j).toNat < fu → ∀ (H : Heap) (locs : List Loc) (ls : Array Slot), zW D (zT cI cJ cZ cP cS cM) L (zQ L sz) st g st.heap H locs → lv_has ls 5 [(4, .int (zI j)), (3, .int (zI e)), (0, .ref t), (1, .ref h0), (2, .int (zI m))] → W pg l en ({ frames := 3, cells := 0, slots := 0, locals := 72 } : Room) st mi ag bl mt cd H locs 0 0 Q (F0 mi 18 ls []) := by
          intro fu
          induction fu with
          | zero => intro j g R1 K1 l1 _ hfu; exact absurd hfu (Nat.not_lt_zero _)
          | succ fu ih18 =>
            intro j g R1 K1 l1 hinv18 hfu18 H locs ls hW hl
            obtain ⟨hfr, hsp, hln, hco, hR1, hj0, hj1, hei⟩ := hinv18
            refine lv_iload hX0 hB0 dX6_findCofactor_18 (lv_at hl 0 rfl) ?_
            refine lv_iload_n hX0 hB0 dX6_findCofactor_20 rfl (lv_at hl 1 rfl) ?_
            refine z_icmp_gt (tgt := 77) CX dX6_findCofactor_21 (by decide) (by constructor <;> omega) (by constructor <;> omega) (fun c_21 => ?_) (fun c_21 => ?_)
            ·
              refine lv_iinc (v := zI (e + 1)) (lv' := [(3, .int (zI (e + 1))), (4, .int (zI j)), (0, .ref t), (1, .ref h0), (2, .int (zI m))]) hX0 hB0 dX6_findCofactor_77 hl (k := 1) rfl (zI_add _ _) (by decide) rfl (fun ls hl => ?_)
              refine lv_goto (tgt := 10) hX0 hB0 dX6_findCofactor_80 (by decide) ?_
              exact ih10 (e + 1) g R1 K1 l1 ⟨hfr, hsp, hln, hco, hR1, by omega, by omega, by rw [hez, zfcO_none d p (by omega) (hei.trans (by rw [show (e + 1 - j).toNat = 0 by omega]; rfl))]⟩ (by omega) H locs ls hW (lv_sub hl [0, 2, 3, 4] rfl)
            ·
              refine lv_aload_n hX0 hB0 dX6_findCofactor_24 rfl (lv_at hl 2 rfl) ?_
              refine lv_aload_n hX0 hB0 dX6_findCofactor_25 rfl (lv_at hl 3 rfl) ?_
              refine lv_iload_n hX0 hB0 dX6_findCofactor_26 rfl (lv_at hl 1 rfl) ?_
              refine lv_iload hX0 hB0 dX6_findCofactor_27 (lv_at hl 0 rfl) ?_
              refine z_isub (z := e - j) CX dX6_findCofactor_29 rfl ?_
              refine lv_iload hX0 hB0 dX6_findCofactor_30 (lv_at hl 0 rfl) ?_
              refine z_callv hW (va_runV (C := RX6) (As := [.ref h0, .int (zI (e - j)), .int (zI j)]) (rest := []) CX.fix (c_setLine l (f := g) t b cp (zone 1) cr l1 h0 h d (e - j) j ⟨((hfr _ (by omega)).trans hT.1), ((hfr _ (by omega)).trans hT.2.1), ((hfr _ (by omega)).trans hT.2.2.1), ((hfr _ (by omega)).trans hT.2.2.2.1), hco, ((hfr _ (by omega)).trans hT.2.2.2.2.2.1), ((hfr _ (by omega)).trans hT.2.2.2.2.2.2.1), hln⟩ ((hfr _ (by omega)).trans hf0) ((hfr _ (by omega)).trans hf1) (by first | assumption | exact zcan_le (by assumption) (by omega)) (by omega) (by omega) (by omega) (by omega)) (cwV 3 CX.fix.2.2.2.2 gX6_findCofactor_X6_setLine rfl rfl rfl (by decide +kernel) ⟨Nat.le_of_ble_eq_true rfl, Nat.le_of_ble_eq_true rfl⟩) (z_preV CX hW (r := (RX6, TX6, 5)) ((hfr _ (by omega)).trans hT.1) rfl) rfl rfl hl.1 rfl (lv_room (Nat.le_of_ble_eq_true rfl)) dX6_findCofactor_32 ⟨Nat.zero_le _, Nat.zero_le _⟩) (fun gn H locs hok32 hW => ?_)
              have eg : gn = va_up g (t + 7) (zA cI 94 (zline d (e - j) j)) := hok32
              rw [eg] at hW
              clear eg
              refine lv_aload_n hX0 hB0 dX6_findCofactor_35 rfl (lv_at hl 2 rfl) ?_
              refine lv_bipush (v := zI 45) hX0 hB0 dX6_findCofactor_36 (by decide) ?_
              refine lv_iload_n hX0 hB0 dX6_findCofactor_38 rfl (lv_at hl 1 rfl) ?_
              refine lv_iload hX0 hB0 dX6_findCofactor_39 (lv_at hl 0 rfl) ?_
              refine z_isub (z := e - j) CX dX6_findCofactor_41 rfl ?_
              refine lv_iload hX0 hB0 dX6_findCofactor_42 (lv_at hl 0 rfl) ?_
              refine z_calli hW (va_runS (As := [.int (zI (e - j)), .int (zI j)]) (rest := [.int (zI 45), .ref t]) CX.fix (c_column l (f := va_up g (t + 7) (zA cI 94 (zline d (e - j) j))) (e - j) j (by omega) (by omega)) (va_cwS 2 CX.fix.2.2.2.2 gX6_findCofactor_X6_column rfl rfl rfl (by decide +kernel) ⟨Nat.le_of_ble_eq_true rfl, Nat.le_of_ble_eq_true rfl⟩) (z_preS CX hW) rfl rfl hl.1 rfl (lv_room (Nat.le_of_ble_eq_true rfl)) dX6_findCofactor_44 ⟨Nat.zero_le _, Nat.zero_le _⟩) (fun zv gn H locs hok44 hW => ?_)
              obtain ⟨ez, eg⟩ := hok44
              have eg : gn = va_up g (t + 7) (zA cI 94 (zline d (e - j) j)) := eg
              rw [eg] at hW
              clear eg
              have ez : zv = zcol (e - j) j := ez
              rw [ez]
              clear ez
              have hcl44 := zcol_rng (i := e - j) (j := j) (by omega) (by omega)
              have hfcc : zcan p (zfcl d e j) := zsc_can (zline_can (by omega) hd) (by omega)
              refine z_iadd (z := 45 + (zcol (e - j) j)) CX dX6_findCofactor_47 rfl ?_
              refine lv_iconst (v := zI 1) hX0 hB0 dX6_findCofactor_48 rfl ?_
              refine z_callv hW (va_runV (C := RX6) (As := [.int (zI (45 + (zcol (e - j) j))), .int (zI 1)]) (rest := []) CX.fix (c_setColumn l (f := va_up g (t + 7) (zA cI 94 (zline d (e - j) j))) t b cp (zone 1) cr (zline d (e - j) j) (45 + (zcol (e - j) j)) 1 ⟨((va_up_ne _ _ (by omega)).trans ((hfr _ (by omega)).trans hT.1)), ((va_up_ne _ _ (by omega)).trans ((hfr _ (by omega)).trans hT.2.1)), ((va_up_ne _ _ (by omega)).trans ((hfr _ (by omega)).trans hT.2.2.1)), ((va_up_ne _ _ (by omega)).trans ((hfr _ (by omega)).trans hT.2.2.2.1)), ((va_up_ne _ _ (by omega)).trans hco), ((va_up_ne _ _ (by omega)).trans ((hfr _ (by omega)).trans hT.2.2.2.2.2.1)), ((va_up_ne _ _ (by omega)).trans ((hfr _ (by omega)).trans hT.2.2.2.2.2.2.1)), (va_up_self _ _ _)⟩ (by constructor <;> omega) (by constructor <;> omega)) (cwV 2 CX.fix.2.2.2.2 gX6_findCofactor_X6_setColumn rfl rfl rfl (by decide +kernel) ⟨Nat.le_of_ble_eq_true rfl, Nat.le_of_ble_eq_true rfl⟩) (z_preV CX hW (r := (RX6, TX6, 5)) ((va_up_ne _ _ (by omega)).trans ((hfr _ (by omega)).trans hT.1)) rfl) rfl rfl hl.1 rfl (lv_room (Nat.le_of_ble_eq_true rfl)) dX6_findCofactor_49 ⟨Nat.zero_le _, Nat.zero_le _⟩) (fun gn H locs hok49 hW => ?_)
              have eg : gn = va_up g (t + 7) (zA cI 94 (zsc (zline d (e - j) j) (45 + (zcol (e - j) j)) 1)) := (hok49).trans va_up_up
              rw [eg] at hW
              clear eg
              refine lv_aload_n hX0 hB0 dX6_findCofactor_52 rfl (lv_at hl 2 rfl) ?_
              refine z_get (Cn := RX6) (T := TX6) (N := 5) CX hW (v := .ref b) ((va_up_ne _ _ (by omega)).trans ((hfr _ (by omega)).trans hT.1)) rfl (fun w h => List.mem_cons_of_mem _ (List.mem_append_left _ (List.mem_append_left _ (List.mem_append_right _ h)))) 4 (by decide) (List.mem_of_getElem? (i := 2) rfl) rfl rfl dX6_findCofactor_53 ?_
              refine lv_aload_n hX0 hB0 dX6_findCofactor_56 rfl (lv_at hl 2 rfl) ?_
              refine z_get (Cn := RX6) (T := TX6) (N := 5) CX hW (v := .ref (t + 7)) ((va_up_ne _ _ (by omega)).trans ((hfr _ (by omega)).trans hT.1)) rfl (fun w h => List.mem_cons_of_mem _ (List.mem_append_left _ (List.mem_append_left _ (List.mem_append_right _ h)))) 3 (by decide) (List.mem_of_getElem? (i := 3) rfl) rfl rfl dX6_findCofactor_57 ?_
              refine z_calli hW (va_runV (C := RX8) (As := [.ref (t + 7)]) (rest := []) CX.fix (c_spadd l (f := va_up g (t + 7) (zA cI 94 (zsc (zline d (e - j) j) (45 + (zcol (e - j) j)) 1))) b 60 45 p R1 K1 (t + 7) 94 (zsc (zline d (e - j) j) (45 + (zcol (e - j) j)) 1) (hsp.same (fun q h1 h2 => ((va_up_ne _ _ (by omega)).trans rfl))) hR1 (va_up_self _ _ _) hfcc (by omega) (by omega) (by omega) (by omega) (by omega)) (cwV 1 CX.fix.2.2.2.2 gX6_findCofactor_X8_add rfl rfl rfl (by decide +kernel) ⟨Nat.le_of_ble_eq_true rfl, Nat.le_of_ble_eq_true rfl⟩) (z_preV CX hW (r := (RX8, TX8, 5)) ((va_up_ne _ _ (by omega)).trans hsp.1) rfl) rfl rfl hl.1 rfl (lv_room (Nat.le_of_ble_eq_true rfl)) dX6_findCofactor_60 ⟨Nat.zero_le _, Nat.zero_le _⟩) (fun zv gn H locs hok60 hW => ?_)
              obtain ⟨g60, eg60⟩ : ∃ q, q = gn := ⟨_, rfl⟩
              rw [← eg60] at hW hok60
              clear eg60
              obtain ⟨hz60, hfr60, hgt60, hsp60⟩ := hok60
              have ez : zv = zsp1 K1 R1 60 45 p (zsc (zline d (e - j) j) (45 + (zcol (e - j) j)) 1) := hz60
              rw [ez]
              clear ez
              have hb60 := zsp1_01 K1 R1 60 45 p (zsc (zline d (e - j) j) (45 + (zcol (e - j) j)) 1)
              refine z_if_ne (tgt := 71) CX dX6_findCofactor_63 (by decide) (by constructor <;> omega) (fun c_63 => ?_) (fun c_63 => ?_)
              ·
                refine lv_iinc (v := zI (j + 1)) (lv' := [(4, .int (zI (j + 1))), (3, .int (zI e)), (0, .ref t), (1, .ref h0), (2, .int (zI m))]) hX0 hB0 dX6_findCofactor_71 hl (k := 0) rfl (zI_add _ _) (by decide) rfl (fun ls hl => ?_)
                refine lv_goto (tgt := 18) hX0 hB0 dX6_findCofactor_74 (by decide) ?_
                exact ih18 (j + 1) g60 ((zspR K1 R1 60 45 p (zsc (zline d (e - j) j) (45 + (zcol (e - j) j)) 1))) ((zspK K1 R1 60 45 p (zsc (zline d (e - j) j) (45 + (zcol (e - j) j)) 1))) ((zspan K1 R1 60 45 p (zsc (zline d (e - j) j) (45 + (zcol (e - j) j)) 1)).2) ⟨fun q hq => ((hfr60 _ (by omega)).trans ((va_up_ne _ _ (by omega)).trans ((hfr _ (by omega)).trans rfl))), hsp60, hgt60, ((hfr60 _ (by omega)).trans ((va_up_ne _ _ (by omega)).trans hco)), (zsg_ok (s := (R1, K1, l1)) hp hR1 hfcc).1, by omega, by omega, by rw [hei, zfcI_t d p _ _ _ (by omega), if_neg c_63]⟩ (by omega) H locs ls hW (lv_sub hl [0, 1, 2, 3, 4] rfl)
              ·
                refine lv_aload_n hX0 hB0 dX6_findCofactor_66 rfl (lv_at hl 2 rfl) ?_
                refine z_callv hW (va_runV (C := RX6) (As := []) (rest := []) CX.fix (c_takeCofactor l (f := g60) t b cp (zone 1) cr ((zspan K1 R1 60 45 p (zsc (zline d (e - j) j) (45 + (zcol (e - j) j)) 1)).2) ⟨((hfr60 _ (by omega)).trans ((va_up_ne _ _ (by omega)).trans ((hfr _ (by omega)).trans hT.1))), ((hfr60 _ (by omega)).trans ((va_up_ne _ _ (by omega)).trans ((hfr _ (by omega)).trans hT.2.1))), ((hfr60 _ (by omega)).trans ((va_up_ne _ _ (by omega)).trans ((hfr _ (by omega)).trans hT.2.2.1))), ((hfr60 _ (by omega)).trans ((va_up_ne _ _ (by omega)).trans ((hfr _ (by omega)).trans hT.2.2.2.1))), ((hfr60 _ (by omega)).trans ((va_up_ne _ _ (by omega)).trans hco)), ((hfr60 _ (by omega)).trans ((va_up_ne _ _ (by omega)).trans ((hfr _ (by omega)).trans hT.2.2.2.2.2.1))), ((hfr60 _ (by omega)).trans ((va_up_ne _ _ (by omega)).trans ((hfr _ (by omega)).trans hT.2.2.2.2.2.2.1))), hgt60⟩) (cwV 0 CX.fix.2.2.2.2 gX6_findCofactor_X6_takeCofactor rfl rfl rfl (by decide +kernel) ⟨Nat.le_of_ble_eq_true rfl, Nat.le_of_ble_eq_true rfl⟩) (z_preV CX hW (r := (RX6, TX6, 5)) ((hfr60 _ (by omega)).trans ((va_up_ne _ _ (by omega)).trans ((hfr _ (by omega)).trans hT.1))) rfl) rfl rfl hl.1 rfl (lv_room (Nat.le_of_ble_eq_true rfl)) dX6_findCofactor_67 ⟨Nat.zero_le _, Nat.zero_le _⟩) (fun gn H locs hok67 hW => ?_)
                have eg : gn = va_up g60 (t + 4) (zA cI 25 (ztake ((zspan K1 R1 60 45 p (zsc (zline d (e - j) j) (45 + (zcol (e - j) j)) 1)).2) (zone 1))) := hok67
                rw [eg] at hW
                clear eg
                rw [← hQ]
                refine z_vret CX hW ?_ dX6_findCofactor_70
                have hfs := zfcI_t d p R1 K1 l1 (show j ≤ e by omega)
                rw [if_pos c_63] at hfs
                have hfz : zfc d p m (R, K, ln) = _ := hez.trans (zfcO_some d p (by omega) (hei.trans hfs))
                rw [hfz]
                have hok := zsg_ok (s := (R1, K1, l1)) hp hR1 hfcc
                exact ⟨fun q hq => ((va_up_ne _ _ (by omega)).trans ((hfr60 _ (by omega)).trans ((va_up_ne _ _ (by omega)).trans ((hfr _ (by omega)).trans rfl)))), hsp60.same (fun q h1 h2 => va_up_ne _ _ (by omega)), ((va_up_ne _ _ (by omega)).trans hgt60), va_up_self _ _ _, hok.1, ztake_can hok.2 (zone_can (by omega) (by omega))⟩
        exact hL18 _ 0 g R1 K1 l1 ⟨hfr, hsp, hln, hco, hR1, by omega, by omega, by rw [hS0]⟩ (Nat.lt_succ_self _) H locs ls hW (lv_sub hl [0, 1, 2, 3, 4] rfl)
  exact hL10 _ 0 (va_up f (t + 4) (zA cI 25 (zone 1))) R K ln ⟨fun q hq => va_up_ne _ _ (by omega), hS.same (fun q h1 h2 => va_up_ne _ _ (by omega)), (va_up_ne _ _ (by omega)).trans hT.2.2.2.2.2.2.2, va_up_self _ _ _, hR, by omega, by omega, rfl⟩ (Nat.lt_succ_self _) H locs ls hW (lv_sub hl [0, 1, 2, 3] rfl)
theorem zquo_can {e r : Nat → Int} {p : Int} (hp : 0 < p) : zcan p (zquo e r p).1 :=
  zforD_inv (fun s : (Nat → Int) × (Nat → Int) => zcan p s.1) (zone_can hp (by omega)) (fun d s hs => zforD_inv (fun s : (Nat → Int) × (Nat → Int) => zcan p s.1) hs (fun i s hs => zcan_put hs _ _ (zmr _ hp)) _) _
set_option maxRecDepth 100000 in
set_option maxHeartbeats 4000000 in
/-- Sharing.find -/
theorem c_common (l : Launch) {D : va_G} {cI cJ cZ cP cS cM : ClassId} {L : List Nat} {sz : Nat} {f : Nat → va_E} (t b : Nat) (cp cc cr ln : Nat → Int) (h0 h : Nat) (d : Nat → Int) (h1 ha : Nat) (e : Nat → Int) (w lim p0 : Int) (R : Nat → Nat → Int) (K : Nat → Int) (p : Int) (hT : zSh cI f t b cp cc cr ln) (hf0 : f h0 = .inr (2, [.ref h])) (hf1 : f h = zA cI 25 d) (hd : zcan p d) (hh0 : h0 < t ∨ t + 8 ≤ h0) (hh : h < t ∨ t + 8 ≤ h) (hg0 : f h1 = .inr (2, [.ref ha])) (hg1 : f ha = zA cI 25 e) (he : zcan p e) (hk0 : h1 < t ∨ t + 8 ≤ h1) (hk1 : ha < t ∨ t + 8 ≤ ha) (hm0 : h1 < b ∨ b + 97 ≤ h1) (hm1 : ha < b ∨ b + 97 ≤ ha) (hS : zSpace cI cZ cM f b w lim p0 R K) (hR : ∀ i, zcan 31 (R i)) (hp : 2 ≤ p ∧ p ≤ 31) (hbt : b + 97 ≤ t ∨ t + 8 ≤ b) (hb0 : h0 < b ∨ b + 97 ≤ h0) (hb1 : h < b ∨ b + 97 ≤ h) : zMr l yX6_find wsX6_find 4 96 D (zT cI cJ cZ cP cS cM) L sz f [.ref t, .ref h0, .ref h1, .int (zI p)] (fun z g => z = some (t + 1) ∧ zFrS f g b t ∧ ∃ (R2 : Nat → Nat → Int) (K2 c2 r2 l2 : Nat → Int), zSpace cI cZ cM g b 60 45 p R2 K2 ∧ zSh cI g t b (zcom d e p R ln) c2 r2 l2 ∧ (∀ i, zcan 31 (R2 i))) := by
  refine zWalk.met (nL := 7) (ret := (some (.object "CurveMeets$Poly"))) (cc := cX6_find) (by decide) rfl (Nat.le_of_ble_eq_true rfl) ?_
  intro pg en st mi ag bl mt cd ls CX hW hl
  have CX : zC pg st mi ag mt cd cX6_find 7 (some (.object "CurveMeets$Poly")) RX6 wsX6_find := CX
  generalize hQ : MQ bl _ ag st 0 0 _ = Q
  have hX0 := CX.1
  have hB0 := CX.2.1
  have hl : lv_has ls 7 [(0, .ref t), (1, .ref h0), (2, .ref h1), (3, .int (zI p))] := hl
  obtain ⟨H, eH⟩ : ∃ H, H = st.heap := ⟨_, rfl⟩
  obtain ⟨locs, eL⟩ : ∃ L : List Loc, L = [] := ⟨_, rfl⟩
  have hW : zW D (zT cI cJ cZ cP cS cM) L (zQ L sz) st f st.heap H locs := by rw [eH, eL]; exact hW
  suffices hgo : W pg l en ({ frames := 4, cells := 0, slots := 0, locals := 96 } : Room) st mi ag bl mt cd H locs 0 0 Q (F0 mi 0 ls []) by rw [eH, eL] at hgo; exact hgo
  clear eH eL
  refine lv_aload_n hX0 hB0 dX6_find_0 rfl (lv_at hl 0 rfl) ?_
  refine z_get (Cn := RX6) (T := TX6) (N := 5) CX hW (v := .ref b) hT.1 rfl (fun w h => List.mem_cons_of_mem _ (List.mem_append_left _ (List.mem_append_left _ (List.mem_append_right _ h)))) 4 (by decide) (List.mem_of_getElem? (i := 1) rfl) rfl rfl dX6_find_1 ?_
  refine lv_bipush (v := zI 60) hX0 hB0 dX6_find_4 (by decide) ?_
  refine lv_bipush (v := zI 45) hX0 hB0 dX6_find_6 (by decide) ?_
  refine lv_iload_n hX0 hB0 dX6_find_8 rfl (lv_at hl 3 rfl) ?_
  refine z_callv hW (va_runV (C := RX8) (As := [.int (zI 60), .int (zI 45), .int (zI p)]) (rest := []) CX.fix (c_spbegin l (f := f) b w lim p0 R K 60 45 p hS (by constructor <;> omega) (by constructor <;> omega) (by constructor <;> omega)) (cwV 3 CX.fix.2.2.2.2 gX6_find_X8_begin rfl rfl rfl (by decide +kernel) ⟨Nat.le_of_ble_eq_true rfl, Nat.le_of_ble_eq_true rfl⟩) (z_preV CX hW (r := (RX8, TX8, 5)) hS.1 rfl) rfl rfl hl.1 rfl (lv_room (Nat.le_of_ble_eq_true rfl)) dX6_find_9 ⟨Nat.zero_le _, Nat.zero_le _⟩) (fun gn H locs hok9 hW => ?_)
  obtain ⟨g9, eg9⟩ : ∃ q, q = gn := ⟨_, rfl⟩
  rw [← eg9] at hW hok9
  clear eg9
  obtain ⟨hfr9, hsp9⟩ := hok9
  replace hsp9 : zSpace cI cZ cM g9 b 60 45 p R (fun _ => 0) := hsp9
  refine lv_aload_n hX0 hB0 dX6_find_12 rfl (lv_at hl 1 rfl) ?_
  refine z_calli hW (va_runV (C := RX2) (As := []) (rest := []) CX.fix (c_top l (f := g9) h0 h d ((hfr9 _ (by omega)).trans hf0) ((hfr9 _ (by omega)).trans hf1) (by first | assumption | exact zcan_le (by assumption) (by omega))) (cwV 0 CX.fix.2.2.2.2 gX6_find_X2_top rfl rfl rfl (by decide +kernel) ⟨Nat.le_of_ble_eq_true rfl, Nat.le_of_ble_eq_true rfl⟩) (z_preV CX hW (r := (RX2, TX2, 1)) ((hfr9 _ (by omega)).trans hf0) rfl) rfl rfl hl.1 rfl (lv_room (Nat.le_of_ble_eq_true rfl)) dX6_find_13 ⟨Nat.zero_le _, Nat.zero_le _⟩) (fun zv gn H locs hok13 hW => ?_)
  obtain ⟨ez, eg⟩ := hok13
  have eg : gn = g9 := eg
  rw [eg] at hW
  clear eg
  have ez : zv = ztop d := ez
  rw [ez]
  clear ez
  have htp13 := ztop_rng d
  have htd := ztop_rng d
  refine lv_istore (lv' := [(4, .int (zI (ztop d))), (0, .ref t), (1, .ref h0), (2, .ref h1), (3, .int (zI p))]) hX0 hB0 dX6_find_16 hl (by decide) rfl (fun ls hl => ?_)
  refine lv_iconst (v := zI 0) hX0 hB0 dX6_find_18 rfl ?_
  refine lv_istore (lv' := [(5, .int (zI 0)), (4, .int (zI (ztop d))), (0, .ref t), (1, .ref h0), (2, .ref h1), (3, .int (zI p))]) hX0 hB0 dX6_find_19 hl (by decide) rfl (fun ls hl => ?_)
  have hL21 : ∀ (fu : Nat) (k : Int) (g : Nat → va_E) (R1 : Nat → Nat → Int) (K1 : Nat → Int) (l1 : Nat → Int), (zFrT f g b t ∧ zSpace cI cZ cM g b 60 45 p R1 K1 ∧ g (t + 7) = zA cI 94 l1 ∧ g (t + 4) = zA cI 25 cc ∧ (∀ i, zcan 31 (R1 i)) ∧ 0 ≤ k ∧ (k ≤ ztop d + 1 ∨ k = 0) ∧ (R1, K1, l1) = zfor (zfill_out e p) 0 (R, fun _ => 0, ln) (k - 0).toNat) → (ztop d + 1 - k).toNat < fu → ∀ (H : Heap) (locs : List Loc) (ls : Array Slot), zW D (zT cI cJ cZ cP cS cM) L (zQ L sz) st g st.heap H locs → lv_has ls 7 [(5, .int (zI k)), (4, .int (zI (ztop d))), (0, .ref t), (1, .ref h0), (2, .ref h1), (3, .int (zI p))] → W pg l en ({ frames := 4, cells := 0, slots := 0, locals := 96 } : Room) st mi ag bl mt cd H locs 0 0 Q (F0 mi 21 ls []) := by
    intro fu
    induction fu with
    | zero => intro k g R1 K1 l1 _ hfu; exact absurd hfu (Nat.not_lt_zero _)
    | succ fu ih21 =>
      intro k g R1 K1 l1 hinv21 hfu21 H locs ls hW hl
      obtain ⟨hfr, hsp, hln, hco, hR1, hk2, hk3, hez⟩ := hinv21
      refine lv_iload hX0 hB0 dX6_find_21 (lv_at hl 0 rfl) ?_
      refine lv_iload hX0 hB0 dX6_find_23 (lv_at hl 1 rfl) ?_
      refine z_icmp_gt (tgt := 74) CX dX6_find_25 (by decide) (by constructor <;> omega) (by constructor <;> omega) (fun c_25 => ?_) (fun c_25 => ?_)
      ·
        have hfn : (R1, K1, l1) = zfnd d e p R ln := by rw [hez]; unfold zfnd; congr 1; omega
        refine lv_aload_n hX0 hB0 dX6_find_74 rfl (lv_at hl 2 rfl) ?_
        refine lv_aload_n hX0 hB0 dX6_find_75 rfl (lv_at hl 3 rfl) ?_
        refine lv_aload_n hX0 hB0 dX6_find_76 rfl (lv_at hl 4 rfl) ?_
        refine z_calli hW (va_runV (C := RX2) (As := []) (rest := [.ref h0, .ref t]) CX.fix (c_top l (f := g) h1 ha e ((hfr _ (by omega)).trans hg0) ((hfr _ (by omega)).trans hg1) (by first | assumption | exact zcan_le (by assumption) (by omega))) (cwV 0 CX.fix.2.2.2.2 gX6_find_X2_top rfl rfl rfl (by decide +kernel) ⟨Nat.le_of_ble_eq_true rfl, Nat.le_of_ble_eq_true rfl⟩) (z_preV CX hW (r := (RX2, TX2, 1)) ((hfr _ (by omega)).trans hg0) rfl) rfl rfl hl.1 rfl (lv_room (Nat.le_of_ble_eq_true rfl)) dX6_find_77 ⟨Nat.zero_le _, Nat.zero_le _⟩) (fun zv gn H locs hok77 hW => ?_)
        obtain ⟨ez, eg⟩ := hok77
        have eg : gn = g := eg
        rw [eg] at hW
        clear eg
        have ez : zv = ztop e := ez
        rw [ez]
        clear ez
        have htp77 := ztop_rng e
        have hte := ztop_rng e
        refine z_callv hW (va_runV (C := RX6) (As := [.ref h0, .int (zI (ztop e))]) (rest := []) CX.fix (c_findCofactor l (f := g) t b cp cc cr l1 h0 h d p R1 K1 (ztop e) ⟨((hfr _ (by omega)).trans hT.1), ((hfr _ (by omega)).trans hT.2.1), ((hfr _ (by omega)).trans hT.2.2.1), ((hfr _ (by omega)).trans hT.2.2.2.1), hco, ((hfr _ (by omega)).trans hT.2.2.2.2.2.1), ((hfr _ (by omega)).trans hT.2.2.2.2.2.2.1), hln⟩ ((hfr _ (by omega)).trans hf0) ((hfr _ (by omega)).trans hf1) (by assumption) (by omega) (by omega) hsp hR1 (by omega) (by omega) (by omega) (by omega) (by omega)) (cwV 2 CX.fix.2.2.2.2 gX6_find_X6_findCofactor rfl rfl rfl (by decide +kernel) ⟨Nat.le_of_ble_eq_true rfl, Nat.le_of_ble_eq_true rfl⟩) (z_preV CX hW (r := (RX6, TX6, 5)) ((hfr _ (by omega)).trans hT.1) rfl) rfl rfl hl.1 rfl (lv_room (Nat.le_of_ble_eq_true rfl)) dX6_find_80 ⟨Nat.zero_le _, Nat.zero_le _⟩) (fun gn H locs hok80 hW => ?_)
        obtain ⟨g80, eg80⟩ : ∃ q, q = gn := ⟨_, rfl⟩
        rw [← eg80] at hW hok80
        clear eg80
        obtain ⟨hfr80, hsp80, hgt80, hgc80, hgR80, hgo80⟩ := hok80
        refine lv_aload_n hX0 hB0 dX6_find_83 rfl (lv_at hl 2 rfl) ?_
        refine z_get (Cn := RX6) (T := TX6) (N := 5) CX hW (v := .ref (t + 5)) ((hfr80 _ (by omega)).trans ((hfr _ (by omega)).trans hT.1)) rfl (fun w h => List.mem_cons_of_mem _ (List.mem_append_left _ (List.mem_append_left _ (List.mem_append_right _ h)))) 2 (by decide) (List.mem_of_getElem? (i := 3) rfl) rfl rfl dX6_find_84 ?_
        refine lv_aload_n hX0 hB0 dX6_find_87 rfl (lv_at hl 4 rfl) ?_
        refine z_callv hW (va_runV (C := RX2) (As := [.ref h1]) (rest := []) CX.fix (c_copy l (f := g80) (t + 5) (t + 6) cr h1 ha e ((hfr80 _ (by omega)).trans ((hfr _ (by omega)).trans hT.2.2.2.2.2.1)) ((hfr80 _ (by omega)).trans ((hfr _ (by omega)).trans hT.2.2.2.2.2.2.1)) ((hfr80 _ (by omega)).trans ((hfr _ (by omega)).trans hg0)) ((hfr80 _ (by omega)).trans ((hfr _ (by omega)).trans hg1))) (cwV 1 CX.fix.2.2.2.2 gX6_find_X2_copy rfl rfl rfl (by decide +kernel) ⟨Nat.le_of_ble_eq_true rfl, Nat.le_of_ble_eq_true rfl⟩) (z_preV CX hW (r := (RX2, TX2, 1)) ((hfr80 _ (by omega)).trans ((hfr _ (by omega)).trans hT.2.2.2.2.2.1)) rfl) rfl rfl hl.1 rfl (lv_room (Nat.le_of_ble_eq_true rfl)) dX6_find_88 ⟨Nat.zero_le _, Nat.zero_le _⟩) (fun gn H locs hok88 hW => ?_)
        have eg : gn = va_up g80 (t + 6) (zA cI 25 e) := hok88
        rw [eg] at hW
        clear eg
        refine lv_aload_n hX0 hB0 dX6_find_91 rfl (lv_at hl 2 rfl) ?_
        refine z_get (Cn := RX6) (T := TX6) (N := 5) CX hW (v := .ref (t + 1)) ((va_up_ne _ _ (by omega)).trans ((hfr80 _ (by omega)).trans ((hfr _ (by omega)).trans hT.1))) rfl (fun w h => List.mem_cons_of_mem _ (List.mem_append_left _ (List.mem_append_left _ (List.mem_append_right _ h)))) 0 (by decide) (List.mem_of_getElem? (i := 4) rfl) rfl rfl dX6_find_92 ?_
        refine lv_aload_n hX0 hB0 dX6_find_95 rfl (lv_at hl 2 rfl) ?_
        refine z_get (Cn := RX6) (T := TX6) (N := 5) CX hW (v := .ref (t + 5)) ((va_up_ne _ _ (by omega)).trans ((hfr80 _ (by omega)).trans ((hfr _ (by omega)).trans hT.1))) rfl (fun w h => List.mem_cons_of_mem _ (List.mem_append_left _ (List.mem_append_left _ (List.mem_append_right _ h)))) 2 (by decide) (List.mem_of_getElem? (i := 3) rfl) rfl rfl dX6_find_96 ?_
        refine lv_aload_n hX0 hB0 dX6_find_99 rfl (lv_at hl 2 rfl) ?_
        refine z_get (Cn := RX6) (T := TX6) (N := 5) CX hW (v := .ref (t + 3)) ((va_up_ne _ _ (by omega)).trans ((hfr80 _ (by omega)).trans ((hfr _ (by omega)).trans hT.1))) rfl (fun w h => List.mem_cons_of_mem _ (List.mem_append_left _ (List.mem_append_left _ (List.mem_append_right _ h)))) 1 (by decide) (List.mem_of_getElem? (i := 5) rfl) rfl rfl dX6_find_100 ?_
        refine lv_iload_n hX0 hB0 dX6_find_103 rfl (lv_at hl 5 rfl) ?_
        refine z_callv hW (va_runV (C := RX2) (As := [.ref (t + 5), .ref (t + 3), .int (zI p)]) (rest := []) CX.fix (c_quotient l (f := va_up g80 (t + 6) (zA cI 25 e)) (t + 1) (t + 2) cp (t + 5) (t + 6) e (t + 3) (t + 4) (zoc (zfc d p (ztop e) (R1, K1, l1)).1) p ((va_up_ne _ _ (by omega)).trans ((hfr80 _ (by omega)).trans ((hfr _ (by omega)).trans hT.2.1))) ((va_up_ne _ _ (by omega)).trans ((hfr80 _ (by omega)).trans ((hfr _ (by omega)).trans hT.2.2.1))) ((va_up_ne _ _ (by omega)).trans ((hfr80 _ (by omega)).trans ((hfr _ (by omega)).trans hT.2.2.2.2.2.1))) (va_up_self _ _ _) ((va_up_ne _ _ (by omega)).trans ((hfr80 _ (by omega)).trans ((hfr _ (by omega)).trans hT.2.2.2.1))) ((va_up_ne _ _ (by omega)).trans hgc80) (by omega) (by omega) (by omega) (by first | assumption | exact zcan_le (by assumption) (by omega)) (by first | assumption | exact zcan_le (by assumption) (by omega)) (by omega)) (cwV 3 CX.fix.2.2.2.2 gX6_find_X2_quotient rfl rfl rfl (by decide +kernel) ⟨Nat.le_of_ble_eq_true rfl, Nat.le_of_ble_eq_true rfl⟩) (z_preV CX hW (r := (RX2, TX2, 1)) ((va_up_ne _ _ (by omega)).trans ((hfr80 _ (by omega)).trans ((hfr _ (by omega)).trans hT.2.1))) rfl) rfl rfl hl.1 rfl (lv_room (Nat.le_of_ble_eq_true rfl)) dX6_find_104 ⟨Nat.zero_le _, Nat.zero_le _⟩) (fun gn H locs hok104 hW => ?_)
        have eg : gn = va_up (va_up g80 (t + 6) (zA cI 25 ((zquo (zoc (zfc d p (ztop e) (R1, K1, l1)).1) e p).2))) (t + 2) (zA cI 25 ((zquo (zoc (zfc d p (ztop e) (R1, K1, l1)).1) e p).1)) := (hok104).trans (by rw [va_up_comm (a := (t + 2)) (b := (t + 6)) (by omega), va_up_up]; try rfl)
        rw [eg] at hW
        clear eg
        refine lv_aload_n hX0 hB0 dX6_find_107 rfl (lv_at hl 2 rfl) ?_
        refine z_get (Cn := RX6) (T := TX6) (N := 5) CX hW (v := .ref (t + 1)) ((va_up_ne _ _ (by omega)).trans ((va_up_ne _ _ (by omega)).trans ((hfr80 _ (by omega)).trans ((hfr _ (by omega)).trans hT.1)))) rfl (fun w h => List.mem_cons_of_mem _ (List.mem_append_left _ (List.mem_append_left _ (List.mem_append_right _ h)))) 0 (by decide) (List.mem_of_getElem? (i := 4) rfl) rfl rfl dX6_find_108 ?_
        refine lv_iload_n hX0 hB0 dX6_find_111 rfl (lv_at hl 5 rfl) ?_
        refine z_callv hW (va_runV (C := RX2) (As := [.int (zI p)]) (rest := []) CX.fix (c_normalize l (f := va_up (va_up g80 (t + 6) (zA cI 25 ((zquo (zoc (zfc d p (ztop e) (R1, K1, l1)).1) e p).2))) (t + 2) (zA cI 25 ((zquo (zoc (zfc d p (ztop e) (R1, K1, l1)).1) e p).1))) (t + 1) (t + 2) ((zquo (zoc (zfc d p (ztop e) (R1, K1, l1)).1) e p).1) p ((va_up_ne _ _ (by omega)).trans ((va_up_ne _ _ (by omega)).trans ((hfr80 _ (by omega)).trans ((hfr _ (by omega)).trans hT.2.1)))) (va_up_self _ _ _) (by exact zcan_le (zquo_can (by omega)) (by omega)) (by omega)) (cwV 1 CX.fix.2.2.2.2 gX6_find_X2_normalize rfl rfl rfl (by decide +kernel) ⟨Nat.le_of_ble_eq_true rfl, Nat.le_of_ble_eq_true rfl⟩) (z_preV CX hW (r := (RX2, TX2, 1)) ((va_up_ne _ _ (by omega)).trans ((va_up_ne _ _ (by omega)).trans ((hfr80 _ (by omega)).trans ((hfr _ (by omega)).trans hT.2.1)))) rfl) rfl rfl hl.1 rfl (lv_room (Nat.le_of_ble_eq_true rfl)) dX6_find_112 ⟨Nat.zero_le _, Nat.zero_le _⟩) (fun gn H locs hok112 hW => ?_)
        have eg : gn = va_up (va_up g80 (t + 6) (zA cI 25 ((zquo (zoc (zfc d p (ztop e) (R1, K1, l1)).1) e p).2))) (t + 2) (zA cI 25 (znorm ((zquo (zoc (zfc d p (ztop e) (R1, K1, l1)).1) e p).1) p)) := (hok112).trans va_up_up
        rw [eg] at hW
        clear eg
        refine lv_aload_n hX0 hB0 dX6_find_115 rfl (lv_at hl 2 rfl) ?_
        refine z_get (Cn := RX6) (T := TX6) (N := 5) CX hW (v := .ref (t + 1)) ((va_up_ne _ _ (by omega)).trans ((va_up_ne _ _ (by omega)).trans ((hfr80 _ (by omega)).trans ((hfr _ (by omega)).trans hT.1)))) rfl (fun w h => List.mem_cons_of_mem _ (List.mem_append_left _ (List.mem_append_left _ (List.mem_append_right _ h)))) 0 (by decide) (List.mem_of_getElem? (i := 4) rfl) rfl rfl dX6_find_116 ?_
        rw [← hQ]
        exact z_aret (r := some (t + 1)) CX hW (by exact ⟨rfl, fun q hq => ((va_up_ne _ _ (by omega)).trans ((va_up_ne _ _ (by omega)).trans ((hfr80 _ (by omega)).trans ((hfr _ (by omega)).trans rfl)))), _, _, _, _, _, hsp80.same (fun q h1 h2 => ((va_up_ne _ _ (by omega)).trans ((va_up_ne _ _ (by omega)).trans rfl))), ⟨((va_up_ne _ _ (by omega)).trans ((va_up_ne _ _ (by omega)).trans ((hfr80 _ (by omega)).trans ((hfr _ (by omega)).trans hT.1)))), ((va_up_ne _ _ (by omega)).trans ((va_up_ne _ _ (by omega)).trans ((hfr80 _ (by omega)).trans ((hfr _ (by omega)).trans hT.2.1)))), (by unfold zcom zcofa; rw [← hfn]; exact (va_up_self _ _ _)), ((va_up_ne _ _ (by omega)).trans ((va_up_ne _ _ (by omega)).trans ((hfr80 _ (by omega)).trans ((hfr _ (by omega)).trans hT.2.2.2.1)))), ((va_up_ne _ _ (by omega)).trans ((va_up_ne _ _ (by omega)).trans hgc80)), ((va_up_ne _ _ (by omega)).trans ((va_up_ne _ _ (by omega)).trans ((hfr80 _ (by omega)).trans ((hfr _ (by omega)).trans hT.2.2.2.2.2.1)))), ((va_up_ne _ _ (by omega)).trans (va_up_self _ _ _)), ((va_up_ne _ _ (by omega)).trans ((va_up_ne _ _ (by omega)).trans hgt80))⟩, hgR80⟩) dX6_find_119
      ·
        obtain ⟨S0, hS0⟩ : ∃ q : zSg, q = (R1, K1, l1) := ⟨_, rfl⟩
        rw [← hS0] at hez
        refine lv_iconst (v := zI 0) hX0 hB0 dX6_find_28 rfl ?_
        refine lv_istore (lv' := [(6, .int (zI 0)), (5, .int (zI k)), (4, .int (zI (ztop d))), (0, .ref t), (1, .ref h0), (2, .ref h1), (3, .int (zI p))]) hX0 hB0 dX6_find_29 hl (by decide) rfl (fun ls hl => ?_)
        have hL31 : ∀ (fu : Nat) (j : Int) (g : Nat → va_E) (R1 : Nat → Nat → Int) (K1 : Nat → Int) (l1 : Nat → Int), (zFrT f g b t ∧ zSpace cI cZ cM g b 60 45 p R1 K1 ∧ g (t + 7) = zA cI 94 l1 ∧ g (t + 4) = zA cI 25 cc ∧ (∀ i, zcan 31 (R1 i)) ∧ 0 ≤ j ∧ j ≤ k + 1 ∧ (R1, K1, l1) = zfor (zfill_in e p k) 0 S0 (j - 0).toNat) → (k + 1 - j).toNat < fu → ∀ (H : Heap) (locs : List Loc) (ls : Array Slot), zW D (zT cI cJ cZ cP cS cM) L (zQ L sz) st g st.heap H locs → lv_has ls 7 [(6, .int (zI j)), (5, .int (zI k)), (4, .int (zI (ztop d))), (0, .ref t), (1, .ref h0), (2, .ref h1), (3, .int (zI p))] → W pg l en ({ frames := 4, cells := 0, slots := 0, locals := 96 } : Room) st mi ag bl mt cd H locs 0 0 Q (F0 mi 31 ls []) := by
          intro fu
          induction fu with
          | zero => intro j g R1 K1 l1 _ hfu; exact absurd hfu (Nat.not_lt_zero _)
          | succ fu ih31 =>
            intro j g R1 K1 l1 hinv31 hfu31 H locs ls hW hl
            obtain ⟨hfr, hsp, hln, hco, hR1, hj0, hj1, hei⟩ := hinv31
            refine lv_iload hX0 hB0 dX6_find_31 (lv_at hl 0 rfl) ?_
            refine lv_iload hX0 hB0 dX6_find_33 (lv_at hl 1 rfl) ?_
            refine z_icmp_gt (tgt := 68) CX dX6_find_35 (by decide) (by constructor <;> omega) (by constructor <;> omega) (fun c_35 => ?_) (fun c_35 => ?_)
            ·
              refine lv_iinc (v := zI (k + 1)) (lv' := [(5, .int (zI (k + 1))), (6, .int (zI j)), (4, .int (zI (ztop d))), (0, .ref t), (1, .ref h0), (2, .ref h1), (3, .int (zI p))]) hX0 hB0 dX6_find_68 hl (k := 1) rfl (zI_add _ _) (by decide) rfl (fun ls hl => ?_)
              refine lv_goto (tgt := 21) hX0 hB0 dX6_find_71 (by decide) ?_
              exact ih21 (k + 1) g R1 K1 l1 ⟨hfr, hsp, hln, hco, hR1, by omega, by omega, by rw [zfor_s _ _ _ hk2, ← hez, hei]; show zfor _ 0 _ _ = zfor _ 0 _ _; rw [show (j - 0).toNat = (k + 1 - 0).toNat by omega]⟩ (by omega) H locs ls hW (lv_sub hl [0, 2, 3, 4, 5, 6] rfl)
            ·
              refine lv_aload_n hX0 hB0 dX6_find_38 rfl (lv_at hl 3 rfl) ?_
              refine lv_aload_n hX0 hB0 dX6_find_39 rfl (lv_at hl 5 rfl) ?_
              refine lv_iload hX0 hB0 dX6_find_40 (lv_at hl 1 rfl) ?_
              refine lv_iload hX0 hB0 dX6_find_42 (lv_at hl 0 rfl) ?_
              refine z_isub (z := k - j) CX dX6_find_44 rfl ?_
              refine lv_iload hX0 hB0 dX6_find_45 (lv_at hl 0 rfl) ?_
              refine z_callv hW (va_runV (C := RX6) (As := [.ref h1, .int (zI (k - j)), .int (zI j)]) (rest := []) CX.fix (c_setLine l (f := g) t b cp cc cr l1 h1 ha e (k - j) j ⟨((hfr _ (by omega)).trans hT.1), ((hfr _ (by omega)).trans hT.2.1), ((hfr _ (by omega)).trans hT.2.2.1), ((hfr _ (by omega)).trans hT.2.2.2.1), hco, ((hfr _ (by omega)).trans hT.2.2.2.2.2.1), ((hfr _ (by omega)).trans hT.2.2.2.2.2.2.1), hln⟩ ((hfr _ (by omega)).trans hg0) ((hfr _ (by omega)).trans hg1) (by first | assumption | exact zcan_le (by assumption) (by omega)) (by omega) (by omega) (by omega) (by omega)) (cwV 3 CX.fix.2.2.2.2 gX6_find_X6_setLine rfl rfl rfl (by decide +kernel) ⟨Nat.le_of_ble_eq_true rfl, Nat.le_of_ble_eq_true rfl⟩) (z_preV CX hW (r := (RX6, TX6, 5)) ((hfr _ (by omega)).trans hT.1) rfl) rfl rfl hl.1 rfl (lv_room (Nat.le_of_ble_eq_true rfl)) dX6_find_47 ⟨Nat.zero_le _, Nat.zero_le _⟩) (fun gn H locs hok47 hW => ?_)
              have eg : gn = va_up g (t + 7) (zA cI 94 (zline e (k - j) j)) := hok47
              rw [eg] at hW
              clear eg
              refine lv_aload_n hX0 hB0 dX6_find_50 rfl (lv_at hl 3 rfl) ?_
              refine z_get (Cn := RX6) (T := TX6) (N := 5) CX hW (v := .ref b) ((va_up_ne _ _ (by omega)).trans ((hfr _ (by omega)).trans hT.1)) rfl (fun w h => List.mem_cons_of_mem _ (List.mem_append_left _ (List.mem_append_left _ (List.mem_append_right _ h)))) 4 (by decide) (List.mem_of_getElem? (i := 1) rfl) rfl rfl dX6_find_51 ?_
              refine lv_aload_n hX0 hB0 dX6_find_54 rfl (lv_at hl 3 rfl) ?_
              refine z_get (Cn := RX6) (T := TX6) (N := 5) CX hW (v := .ref (t + 7)) ((va_up_ne _ _ (by omega)).trans ((hfr _ (by omega)).trans hT.1)) rfl (fun w h => List.mem_cons_of_mem _ (List.mem_append_left _ (List.mem_append_left _ (List.mem_append_right _ h)))) 3 (by decide) (List.mem_of_getElem? (i := 2) rfl) rfl rfl dX6_find_55 ?_
              refine z_calli hW (va_runV (C := RX8) (As := [.ref (t + 7)]) (rest := []) CX.fix (c_spadd l (f := va_up g (t + 7) (zA cI 94 (zline e (k - j) j))) b 60 45 p R1 K1 (t + 7) 94 (zline e (k - j) j) (hsp.same (fun q h1 h2 => ((va_up_ne _ _ (by omega)).trans rfl))) hR1 (va_up_self _ _ _) (zline_can (by omega) he) (by omega) (by omega) (by omega) (by omega) (by omega)) (cwV 1 CX.fix.2.2.2.2 gX6_find_X8_add rfl rfl rfl (by decide +kernel) ⟨Nat.le_of_ble_eq_true rfl, Nat.le_of_ble_eq_true rfl⟩) (z_preV CX hW (r := (RX8, TX8, 5)) ((va_up_ne _ _ (by omega)).trans hsp.1) rfl) rfl rfl hl.1 rfl (lv_room (Nat.le_of_ble_eq_true rfl)) dX6_find_58 ⟨Nat.zero_le _, Nat.zero_le _⟩) (fun zv gn H locs hok58 hW => ?_)
              obtain ⟨g58, eg58⟩ : ∃ q, q = gn := ⟨_, rfl⟩
              rw [← eg58] at hW hok58
              clear eg58
              obtain ⟨hz58, hfr58, hgt58, hsp58⟩ := hok58
              have ez : zv = zsp1 K1 R1 60 45 p (zline e (k - j) j) := hz58
              rw [ez]
              clear ez
              have hb58 := zsp1_01 K1 R1 60 45 p (zline e (k - j) j)
              refine lv_pop hX0 hB0 dX6_find_61 rfl ?_
              refine lv_iinc (v := zI (j + 1)) (lv' := [(6, .int (zI (j + 1))), (5, .int (zI k)), (4, .int (zI (ztop d))), (0, .ref t), (1, .ref h0), (2, .ref h1), (3, .int (zI p))]) hX0 hB0 dX6_find_62 hl (k := 0) rfl (zI_add _ _) (by decide) rfl (fun ls hl => ?_)
              refine lv_goto (tgt := 31) hX0 hB0 dX6_find_65 (by decide) ?_
              exact ih31 (j + 1) g58 ((zspR K1 R1 60 45 p (zline e (k - j) j))) ((zspK K1 R1 60 45 p (zline e (k - j) j))) ((zspan K1 R1 60 45 p (zline e (k - j) j)).2) ⟨fun q hq => ((hfr58 _ (by omega)).trans ((va_up_ne _ _ (by omega)).trans ((hfr _ (by omega)).trans rfl))), hsp58, hgt58, ((hfr58 _ (by omega)).trans ((va_up_ne _ _ (by omega)).trans hco)), (zsg_ok (s := (R1, K1, l1)) hp hR1 (zline_can (by omega) he)).1, by omega, by omega, by rw [zfor_s _ _ _ hj0, ← hei]; rfl⟩ (by omega) H locs ls hW (lv_sub hl [0, 1, 2, 3, 4, 5, 6] rfl)
        exact hL31 _ 0 g R1 K1 l1 ⟨hfr, hsp, hln, hco, hR1, by omega, by omega, by rw [hS0]; exact (zfor_0 _ _ _).symm⟩ (Nat.lt_succ_self _) H locs ls hW (lv_sub hl [0, 1, 2, 3, 4, 5, 6] rfl)
  exact hL21 _ 0 g9 R ((fun _ => 0)) ln ⟨fun q hq => ((hfr9 _ (by omega)).trans rfl), hsp9, ((hfr9 _ (by omega)).trans hT.2.2.2.2.2.2.2), ((hfr9 _ (by omega)).trans hT.2.2.2.2.1), hR, by omega, Or.inr rfl, (zfor_0 _ _ _).symm⟩ (Nat.lt_succ_self _) H locs ls hW (lv_sub hl [0, 1, 2, 3, 4, 5] rfl)
end ZSh
