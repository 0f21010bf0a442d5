section ZPo
/-- a loop that goes up from a: what k turns make -/
def zfor {σ : Type} (step : Int → σ → σ) (a : Int) (s0 : σ) : Nat → σ
  | 0 => s0
  | k + 1 => step (a + k) (zfor step a s0 k)
theorem zfor_s {σ : Type} (step : Int → σ → σ) (a : Int) (s0 : σ) {i : Int} (h : a ≤ i) : zfor step a s0 (i + 1 - a).toNat = step i (zfor step a s0 (i - a).toNat) := by
  have e : (i + 1 - a).toNat = (i - a).toNat + 1 := by omega
  rw [e]
  show step (a + ((i - a).toNat : Int)) _ = _
  rw [show a + ((i - a).toNat : Int) = i by omega]
theorem zfor_0 {σ : Type} (step : Int → σ → σ) (a : Int) (s0 : σ) : zfor step a s0 (a - a).toNat = s0 := by
  rw [show (a - a).toNat = 0 by omega]
  rfl
/-- what does not hold of a TERM that is none -/
def zfits (i j : Int) : Prop := 0 ≤ i ∧ 0 ≤ j ∧ i ≤ 4 ∧ j ≤ 4 - i
def zat (c : Nat → Int) (i j : Int) : Int := if 0 ≤ i ∧ 0 ≤ j ∧ i ≤ 4 ∧ j ≤ 4 - i then c (i * 5 + j).toNat else 0
theorem zat_t {c : Nat → Int} {i j : Int} (h : zfits i j) : zat c i j = c (i * 5 + j).toNat := if_pos h
theorem zat_f {c : Nat → Int} {i j : Int} (h : ¬ zfits i j) : zat c i j = 0 := if_neg h
def zput (c : Nat → Int) (i j x : Int) : Nat → Int := if 0 ≤ i ∧ 0 ≤ j ∧ i ≤ 4 ∧ j ≤ 4 - i then zup c (i * 5 + j).toNat x else c
theorem zput_t {c : Nat → Int} {i j x : Int} (h : zfits i j) : zput c i j x = zup c (i * 5 + j).toNat x := if_pos h
theorem zput_f {c : Nat → Int} {i j x : Int} (h : ¬ zfits i j) : zput c i j x = c := if_neg h
/-- all below p, none below 0 -/
def zcan (p : Int) (c : Nat → Int) : Prop := ∀ k, 0 ≤ c k ∧ c k < p
theorem zcan_up {p : Int} {c : Nat → Int} (h : zcan p c) (k : Nat) {x : Int} (hx : 0 ≤ x ∧ x < p) : zcan p (zup c k x) := fun j => by
  unfold zup
  split
  · exact hx
  · exact h j
theorem zcan_put {p : Int} {c : Nat → Int} (h : zcan p c) (i j : Int) {x : Int} (hx : 0 ≤ x ∧ x < p) : zcan p (zput c i j x) := by
  unfold zput
  split
  · exact zcan_up h _ hx
  · exact h
theorem zat_can {p : Int} {c : Nat → Int} (hp : 0 < p) (h : zcan p c) (i j : Int) : 0 ≤ zat c i j ∧ zat c i j < p := by
  unfold zat
  split
  · exact h _
  · omega
/-- a number alone -/
def zone (n : Int) : Nat → Int := fun k => if k = 0 then n else 0
theorem zone_can {n p : Int} (hp : 0 < p) (h : 0 ≤ n ∧ n < p) : zcan p (zone n) := fun k => by
  unfold zone
  split <;> omega
/-- the degree, below 0 of 0 -/
def ztop_in (c : Nat → Int) (i : Int) : Int → Int → Int := fun j t => if c (i * 5 + j).toNat ≠ 0 then max t (i + j) else t
def ztop_out (c : Nat → Int) : Int → Int → Int := fun i t => zfor (ztop_in c i) 0 t (4 - i + 1 - 0).toNat
def ztop (c : Nat → Int) : Int := zfor (ztop_out c) 0 (-1) (4 + 1 - 0 : Int).toNat
theorem ztop_eq (c : Nat → Int) : ztop c = zfor (ztop_out c) 0 (-1) (4 + 1 - 0 : Int).toNat := rfl
/-- the greatest i of a TERM with i and j together d -/
def zleadF (c : Nat → Int) (d : Int) : Nat → Int
  | 0 => -1
  | k + 1 => if c ((k : Int) * 5 + d - k).toNat ≠ 0 then (k : Int) else zleadF c d k
def zlead (c : Nat → Int) (d : Int) : Int := if d ≤ 4 then zleadF c d (d + 1).toNat else -1
theorem zleadF_s (c : Nat → Int) (d : Int) {i : Int} (h : 0 ≤ i) : zleadF c d (i + 1).toNat = if c (i * 5 + d - i).toNat ≠ 0 then i else zleadF c d (i - 1 + 1).toNat := by
  rw [show (i + 1).toNat = i.toNat + 1 by omega]
  show (if c (((i.toNat : Nat) : Int) * 5 + d - ((i.toNat : Nat) : Int)).toNat ≠ 0 then ((i.toNat : Nat) : Int) else zleadF c d i.toNat) = _
  rw [show ((i.toNat : Nat) : Int) = i by omega, show (i - 1 + 1).toNat = i.toNat by omega]
/-- c more by o times d, moved by r and u -/
def zaddS_in (d : Nat → Int) (r u o p i : Int) : Int → (Nat → Int) → (Nat → Int) := fun j c => if d (i * 5 + j).toNat ≠ 0 then zup c ((i + r) * 5 + j + u).toNat ((c ((i + r) * 5 + j + u).toNat + o * d (i * 5 + j).toNat) % p) else c
def zaddS_out (d : Nat → Int) (r u o p : Int) : Int → (Nat → Int) → (Nat → Int) := fun i c => zfor (zaddS_in d r u o p i) 0 c (4 - r - u - i + 1 - 0).toNat
def zaddS (c d : Nat → Int) (r u o p : Int) : Nat → Int := zfor (zaddS_out d r u o p) 0 c (4 - r - u + 1 - 0).toNat
theorem zaddS_eq (c d : Nat → Int) (r u o p : Int) : zaddS c d r u o p = zfor (zaddS_out d r u o p) 0 c (4 - r - u + 1 - 0).toNat := rfl
def zprod_in (a b : Nat → Int) (p i : Int) : Int → (Nat → Int) → (Nat → Int) := fun j c => if a (i * 5 + j).toNat ≠ 0 then zaddS c b i j (a (i * 5 + j).toNat) p else c
def zprod_out (a b : Nat → Int) (p : Int) : Int → (Nat → Int) → (Nat → Int) := fun i c => zfor (zprod_in a b p i) 0 c (4 - i + 1 - 0).toNat
def zprod (a b : Nat → Int) (p : Int) : Nat → Int := zfor (zprod_out a b p) 0 (zone 0) (4 + 1 - 0 : Int).toNat
theorem zprod_eq (a b : Nat → Int) (p : Int) : zprod a b p = zfor (zprod_out a b p) 0 (zone 0) (4 + 1 - 0 : Int).toNat := rfl
theorem zfor_inv {σ : Type} {step : Int → σ → σ} {a : Int} {s0 : σ} (I : σ → Prop) (h0 : I s0) (hs : ∀ i x, I x → I (step i x)) : ∀ k, I (zfor step a s0 k)
  | 0 => h0
  | k + 1 => hs _ _ (zfor_inv I h0 hs k)
theorem zaddS_can {c d : Nat → Int} {r u o p q : Int} (hp : 0 < p) (hq : p ≤ q) (h : zcan q c) : zcan q (zaddS c d r u o p) :=
  zfor_inv (zcan q) h (fun i x hx => zfor_inv (zcan q) hx (fun j y hy => by
    show zcan q (zaddS_in d r u o p i j y)
    unfold zaddS_in
    split
    · exact zcan_up hy _ ⟨(zmr _ hp).1, Int.lt_of_lt_of_le (zmr _ hp).2 hq⟩
    · exact hy) _) _
theorem zprod_can {a b : Nat → Int} {p : Int} (hp : 0 < p) : zcan p (zprod a b p) :=
  zfor_inv (zcan p) (zone_can hp (by omega)) (fun i x hx => zfor_inv (zcan p) hx (fun j y hy => by
    show zcan p (zprod_in a b p i j y)
    unfold zprod_in
    split
    · exact zaddS_can hp (Int.le_refl p) hy
    · exact hy) _) _
section ZPn
variable {D : va_G} {tys : List (ClassId × FieldType)} {L : List Nat} {A : Nat → Prop} {s : State} {f : Nat → va_E} {H0 H : Heap} {locs : List Loc} {a : Nat} {cy : ClassId} {n : Nat} {c d : Nat → Int}
/-- beyond its length an array's picture is free -/
theorem zW.same (h : zW D tys L A s (va_up f a (zA cy n c)) H0 H locs) (hcd : ∀ k, k < n → c k = d k) : zW D tys L A s (va_up f a (zA cy n d)) H0 H locs := by
  obtain ⟨h1, h2, h3, h4, h5, h6⟩ := h
  refine ⟨fun k q hk => ?_, zpl_nd h2, h3, h4, fun b hb => h5 b (fun e => hb ?_), h6⟩
  · unfold va_pl at hk
    rw [List.getElem?_map] at hk
    cases hL : L[k]? with
    | none => rw [hL] at hk; cases hk
    | some b =>
      rw [hL] at hk
      cases hk
      have h7 := h1 k (b, va_up f a (zA cy n c) b) (by unfold va_pl; rw [List.getElem?_map, hL]; rfl)
      show va_at D vwCl (b, va_up f a (zA cy n d) b) H
      by_cases hb : b = a
      · subst hb
        rw [va_up_self] at h7 ⊢
        show H[b]? = some (vp_cell _ _)
        have h8 : H[b]? = some (vp_cell cy (n, .inl (fun k => zI (c k)))) := h7
        rw [h8, vp_cell_i, vp_cell_i]
        unfold arrV
        congr 2
        apply congrArg
        funext j
        show Value.int (zI (c j.val)) = Value.int (zI (d j.val))
        rw [hcd j.val j.isLt]
      · rw [va_up_ne _ _ hb] at h7 ⊢
        exact h7
  · by_cases hb2 : b = a
    · subst hb2
      rw [va_up_self] at e
      cases e
    · rw [va_up_ne _ _ hb2] at e ⊢
      exact e
end ZPn
set_option maxRecDepth 100000 in
set_option maxHeartbeats 4000000 in
/-- fits -/
theorem c_fits (l : Launch) {D : va_G} {cI cJ cZ cP cS cM : ClassId} {L : List Nat} {sz : Nat} {f : Nat → va_E} (i j : Int) (hi : -2147483648 ≤ i ∧ i ≤ 2147483647) (hj : -2147483648 ≤ j ∧ j ≤ 2147483647) : zMi l yX2_fits wsX2_fits 0 0 D (zT cI cJ cZ cP cS cM) L sz f [.int (zI i), .int (zI j)] (fun z g => z = bI (zfits i j) ∧ g = f) := by
  refine zWalk.met (nL := 2) (ret := (some .boolean)) (cc := cX2_fits) (by decide) rfl (Nat.le_of_ble_eq_true rfl) ?_
  intro pg en st mi ag bl mt cd ls CX hW hl
  have CX : zC pg st mi ag mt cd cX2_fits 2 (some .boolean) RX2 wsX2_fits := CX
  generalize hQ : MQ bl _ ag st 0 0 _ = Q
  have hX0 := CX.1
  have hB0 := CX.2.1
  have hl : lv_has ls 2 [(0, .int (zI i)), (1, .int (zI j))] := hl
  obtain ⟨H, eH⟩ : ∃ H, H = st.heap := ⟨_, rfl⟩
  obtain ⟨locs, eL⟩ : ∃ L : List Loc, L = [] := ⟨_, rfl⟩
  have hW : zW D (zT cI cJ cZ cP cS cM) L (zQ L sz) st f st.heap H locs := by rw [eH, eL]; exact hW
  suffices hgo : W pg l en ({ frames := 0, cells := 0, slots := 0, locals := 0 } : Room) st mi ag bl mt cd H locs 0 0 Q (F0 mi 0 ls []) by rw [eH, eL] at hgo; exact hgo
  clear eH eL
  refine lv_iload_n hX0 hB0 dX2_fits_0 rfl (lv_at hl 0 rfl) ?_
  refine z_if_lt (tgt := 24) CX dX2_fits_1 (by decide) (by constructor <;> omega) (fun c_1 => ?_) (fun c_1 => ?_)
  ·
    refine lv_iconst (v := zI 0) hX0 hB0 dX2_fits_24 rfl ?_
    rw [← hQ]
    exact z_iret (z := 0) CX hW (by first | exact ⟨(bI_t (by unfold zfits; omega)).symm, rfl⟩ | exact ⟨(bI_f (by unfold zfits; omega)).symm, rfl⟩) rfl dX2_fits_25
  ·
    refine lv_iload_n hX0 hB0 dX2_fits_4 rfl (lv_at hl 1 rfl) ?_
    refine z_if_lt (tgt := 24) CX dX2_fits_5 (by decide) (by constructor <;> omega) (fun c_5 => ?_) (fun c_5 => ?_)
    ·
      refine lv_iconst (v := zI 0) hX0 hB0 dX2_fits_24 rfl ?_
      rw [← hQ]
      exact z_iret (z := 0) CX hW (by first | exact ⟨(bI_t (by unfold zfits; omega)).symm, rfl⟩ | exact ⟨(bI_f (by unfold zfits; omega)).symm, rfl⟩) rfl dX2_fits_25
    ·
      refine lv_iload_n hX0 hB0 dX2_fits_8 rfl (lv_at hl 0 rfl) ?_
      refine lv_iconst (v := zI 4) hX0 hB0 dX2_fits_9 rfl ?_
      refine z_icmp_gt (tgt := 24) CX dX2_fits_10 (by decide) (by constructor <;> omega) (by constructor <;> omega) (fun c_10 => ?_) (fun c_10 => ?_)
      ·
        refine lv_iconst (v := zI 0) hX0 hB0 dX2_fits_24 rfl ?_
        rw [← hQ]
        exact z_iret (z := 0) CX hW (by first | exact ⟨(bI_t (by unfold zfits; omega)).symm, rfl⟩ | exact ⟨(bI_f (by unfold zfits; omega)).symm, rfl⟩) rfl dX2_fits_25
      ·
        refine lv_iload_n hX0 hB0 dX2_fits_13 rfl (lv_at hl 1 rfl) ?_
        refine lv_iconst (v := zI 4) hX0 hB0 dX2_fits_14 rfl ?_
        refine lv_iload_n hX0 hB0 dX2_fits_15 rfl (lv_at hl 0 rfl) ?_
        refine z_isub (z := 4 - i) CX dX2_fits_16 rfl ?_
        refine z_icmp_gt (tgt := 24) CX dX2_fits_17 (by decide) (by constructor <;> omega) (by constructor <;> omega) (fun c_17 => ?_) (fun c_17 => ?_)
        ·
          refine lv_iconst (v := zI 0) hX0 hB0 dX2_fits_24 rfl ?_
          rw [← hQ]
          exact z_iret (z := 0) CX hW (by first | exact ⟨(bI_t (by unfold zfits; omega)).symm, rfl⟩ | exact ⟨(bI_f (by unfold zfits; omega)).symm, rfl⟩) rfl dX2_fits_25
        ·
          refine lv_iconst (v := zI 1) hX0 hB0 dX2_fits_20 rfl ?_
          refine lv_goto (tgt := 25) hX0 hB0 dX2_fits_21 (by decide) ?_
          rw [← hQ]
          exact z_iret (z := 1) CX hW (by first | exact ⟨(bI_t (by unfold zfits; omega)).symm, rfl⟩ | exact ⟨(bI_f (by unfold zfits; omega)).symm, rfl⟩) rfl dX2_fits_25
set_option maxRecDepth 100000 in
set_option maxHeartbeats 4000000 in
/-- at -/
theorem c_at (l : Launch) {D : va_G} {cI cJ cZ cP cS cM : ClassId} {L : List Nat} {sz : Nat} {f : Nat → va_E} (h0 h : Nat) (c : Nat → Int) (i j : Int) (hf0 : f h0 = .inr (2, [.ref h])) (hf1 : f h = zA cI 25 c) (hi : -2147483648 ≤ i ∧ i ≤ 2147483647) (hj : -2147483648 ≤ j ∧ j ≤ 2147483647) : zMi l yX2_at wsX2_at 1 21 D (zT cI cJ cZ cP cS cM) L sz f [.ref h0, .int (zI i), .int (zI j)] (fun z g => z = zat c i j ∧ g = f) := by
  refine zWalk.met (nL := 3) (ret := (some .int)) (cc := cX2_at) (by decide) rfl (Nat.le_of_ble_eq_true rfl) ?_
  intro pg en st mi ag bl mt cd ls CX hW hl
  have CX : zC pg st mi ag mt cd cX2_at 3 (some .int) RX2 wsX2_at := CX
  generalize hQ : MQ bl _ ag st 0 0 _ = Q
  have hX0 := CX.1
  have hB0 := CX.2.1
  have hl : lv_has ls 3 [(0, .ref h0), (1, .int (zI i)), (2, .int (zI j))] := hl
  obtain ⟨H, eH⟩ : ∃ H, H = st.heap := ⟨_, rfl⟩
  obtain ⟨locs, eL⟩ : ∃ L : List Loc, L = [] := ⟨_, rfl⟩
  have hW : zW D (zT cI cJ cZ cP cS cM) L (zQ L sz) st f st.heap H locs := by rw [eH, eL]; exact hW
  suffices hgo : W pg l en ({ frames := 1, cells := 0, slots := 0, locals := 21 } : Room) st mi ag bl mt cd H locs 0 0 Q (F0 mi 0 ls []) by rw [eH, eL] at hgo; exact hgo
  clear eH eL
  refine lv_iload_n hX0 hB0 dX2_at_0 rfl (lv_at hl 1 rfl) ?_
  refine lv_iload_n hX0 hB0 dX2_at_1 rfl (lv_at hl 2 rfl) ?_
  refine z_calli hW (va_runS (As := [.int (zI i), .int (zI j)]) (rest := []) CX.fix (c_fits l (f := f) i j (by constructor <;> omega) (by constructor <;> omega)) (va_cwS 2 CX.fix.2.2.2.2 gX2_at_X2_fits rfl rfl rfl (by decide +kernel) ⟨Nat.le_of_ble_eq_true rfl, Nat.le_of_ble_eq_true rfl⟩) (z_preS CX hW) rfl rfl hl.1 rfl (lv_room (Nat.le_of_ble_eq_true rfl)) dX2_at_2 ⟨Nat.zero_le _, Nat.zero_le _⟩) (fun zv gn H locs hok2 hW => ?_)
  obtain ⟨ez, eg⟩ := hok2
  have eg : gn = f := eg
  rw [eg] at hW
  clear eg
  have ez : zv = bI (zfits i j) := ez
  rw [ez]
  clear ez
  have hb2 := bI_01 (zfits i j)
  refine z_if_eq (tgt := 21) CX dX2_at_5 (by decide) (by constructor <;> omega) (fun c_5 => ?_) (fun c_5 => ?_)
  ·
    have hn := bI_0 c_5
    refine lv_iconst (v := zI 0) hX0 hB0 dX2_at_21 rfl ?_
    rw [← hQ]
    exact z_iret (z := 0) CX hW (by first | exact ⟨(zat_t hy).symm, rfl⟩ | exact ⟨(zat_f hn).symm, rfl⟩) rfl dX2_at_22
  ·
    have hy := bI_1 c_5
    have hy2 := hy
    unfold zfits at hy2
    refine lv_aload_n hX0 hB0 dX2_at_8 rfl (lv_at hl 0 rfl) ?_
    refine z_get (Cn := RX2) (T := TX2) (N := 1) CX hW (v := .ref h) hf0 rfl (fun w h => List.mem_cons_of_mem _ (List.mem_append_right _ h)) 0 (by decide) (List.mem_of_getElem? (i := 1) rfl) rfl rfl dX2_at_9 ?_
    refine lv_iload_n hX0 hB0 dX2_at_12 rfl (lv_at hl 1 rfl) ?_
    refine lv_iconst (v := zI 5) hX0 hB0 dX2_at_13 rfl ?_
    refine z_imul (z := i * 5) CX dX2_at_14 rfl ?_
    refine lv_iload_n hX0 hB0 dX2_at_15 rfl (lv_at hl 2 rfl) ?_
    refine z_iadd (z := (i * 5) + j) CX dX2_at_16 rfl ?_
    refine z_iald (z := c (((i * 5) + j).toNat)) CX hW hf1 0 rfl (by refine ⟨?_, ?_, ?_⟩ <;> omega) rfl dX2_at_17 ?_
    refine lv_goto (tgt := 22) hX0 hB0 dX2_at_18 (by decide) ?_
    rw [← hQ]
    exact z_iret (z := c (((i * 5) + j).toNat)) CX hW (by first | exact ⟨(zat_t hy).symm, rfl⟩ | exact ⟨(zat_f hn).symm, rfl⟩) rfl dX2_at_22
set_option maxRecDepth 100000 in
set_option maxHeartbeats 4000000 in
/-- put -/
theorem c_put (l : Launch) {D : va_G} {cI cJ cZ cP cS cM : ClassId} {L : List Nat} {sz : Nat} {f : Nat → va_E} (h0 h : Nat) (c : Nat → Int) (i j x : Int) (hf0 : f h0 = .inr (2, [.ref h])) (hf1 : f h = zA cI 25 c) (hi : -2147483648 ≤ i ∧ i ≤ 2147483647) (hj : -2147483648 ≤ j ∧ j ≤ 2147483647) : zMv l yX2_put wsX2_put 1 21 D (zT cI cJ cZ cP cS cM) L sz f [.ref h0, .int (zI i), .int (zI j), .int (zI x)] (fun g => g = va_up f h (zA cI 25 (zput c i j x))) := by
  refine zWalk.met (nL := 4) (ret := none) (cc := cX2_put) (by decide) rfl (Nat.le_of_ble_eq_true rfl) ?_
  intro pg en st mi ag bl mt cd ls CX hW hl
  have CX : zC pg st mi ag mt cd cX2_put 4 none RX2 wsX2_put := CX
  generalize hQ : MQ bl _ ag st 0 0 _ = Q
  have hX0 := CX.1
  have hB0 := CX.2.1
  have hl : lv_has ls 4 [(0, .ref h0), (1, .int (zI i)), (2, .int (zI j)), (3, .int (zI x))] := hl
  obtain ⟨H, eH⟩ : ∃ H, H = st.heap := ⟨_, rfl⟩
  obtain ⟨locs, eL⟩ : ∃ L : List Loc, L = [] := ⟨_, rfl⟩
  have hW : zW D (zT cI cJ cZ cP cS cM) L (zQ L sz) st f st.heap H locs := by rw [eH, eL]; exact hW
  suffices hgo : W pg l en ({ frames := 1, cells := 0, slots := 0, locals := 21 } : Room) st mi ag bl mt cd H locs 0 0 Q (F0 mi 0 ls []) by rw [eH, eL] at hgo; exact hgo
  clear eH eL
  refine lv_iload_n hX0 hB0 dX2_put_0 rfl (lv_at hl 1 rfl) ?_
  refine lv_iload_n hX0 hB0 dX2_put_1 rfl (lv_at hl 2 rfl) ?_
  refine z_calli hW (va_runS (As := [.int (zI i), .int (zI j)]) (rest := []) CX.fix (c_fits l (f := f) i j (by constructor <;> omega) (by constructor <;> omega)) (va_cwS 2 CX.fix.2.2.2.2 gX2_put_X2_fits rfl rfl rfl (by decide +kernel) ⟨Nat.le_of_ble_eq_true rfl, Nat.le_of_ble_eq_true rfl⟩) (z_preS CX hW) rfl rfl hl.1 rfl (lv_room (Nat.le_of_ble_eq_true rfl)) dX2_put_2 ⟨Nat.zero_le _, Nat.zero_le _⟩) (fun zv gn H locs hok2 hW => ?_)
  obtain ⟨ez, eg⟩ := hok2
  have eg : gn = f := eg
  rw [eg] at hW
  clear eg
  have ez : zv = bI (zfits i j) := ez
  rw [ez]
  clear ez
  have hb2 := bI_01 (zfits i j)
  refine z_if_eq (tgt := 19) CX dX2_put_5 (by decide) (by constructor <;> omega) (fun c_5 => ?_) (fun c_5 => ?_)
  ·
    have hn := bI_0 c_5
    rw [← hQ]
    exact z_vret CX hW (by first | rw [zput_t hy] | (rw [zput_f hn, va_up_id hf1])) dX2_put_19
  ·
    have hy := bI_1 c_5
    have hy2 := hy
    unfold zfits at hy2
    refine lv_aload_n hX0 hB0 dX2_put_8 rfl (lv_at hl 0 rfl) ?_
    refine z_get (Cn := RX2) (T := TX2) (N := 1) CX hW (v := .ref h) hf0 rfl (fun w h => List.mem_cons_of_mem _ (List.mem_append_right _ h)) 0 (by decide) (List.mem_of_getElem? (i := 1) rfl) rfl rfl dX2_put_9 ?_
    refine lv_iload_n hX0 hB0 dX2_put_12 rfl (lv_at hl 1 rfl) ?_
    refine lv_iconst (v := zI 5) hX0 hB0 dX2_put_13 rfl ?_
    refine z_imul (z := i * 5) CX dX2_put_14 rfl ?_
    refine lv_iload_n hX0 hB0 dX2_put_15 rfl (lv_at hl 2 rfl) ?_
    refine z_iadd (z := (i * 5) + j) CX dX2_put_16 rfl ?_
    refine lv_iload_n hX0 hB0 dX2_put_17 rfl (lv_at hl 3 rfl) ?_
    refine z_iast CX hW hf1 0 rfl (by refine ⟨?_, ?_, ?_⟩ <;> omega) (g := va_up f h (zA cI 25 (zup c (((i * 5) + j).toNat) x))) rfl dX2_put_18 (fun H locs hW => ?_)
    rw [← hQ]
    exact z_vret CX hW (by first | rw [zput_t hy] | (rw [zput_f hn, va_up_id hf1])) dX2_put_19
theorem zcan_le {p q : Int} {c : Nat → Int} (h : zcan p c) (hpq : p ≤ q) : zcan q c := fun k => ⟨(h k).1, Int.lt_of_lt_of_le (h k).2 hpq⟩
theorem zone_step {c : Nat → Int} {n k x : Int} (h : ∀ j : Nat, (j : Int) < k → c j = zone n j) (hk : 0 ≤ k) (hx : x = zone n k.toNat) : ∀ j : Nat, (j : Int) < k + 1 → zup c k.toNat x j = zone n j := by
  intro j hj
  unfold zup
  by_cases e : j = k.toNat
  · rw [if_pos e, hx, e]
  · rw [if_neg e]
    exact h j (by omega)
theorem ztop_rng (c : Nat → Int) : -1 ≤ ztop c ∧ ztop c ≤ 8 := by
  refine ⟨zfor_inv (fun t : Int => -1 ≤ t) (Int.le_refl _) ?_ _, ?_⟩
  · intro i x hx
    refine zfor_inv (fun t : Int => -1 ≤ t) hx ?_ _
    intro j y hy
    show -1 ≤ ztop_in c i j y
    unfold ztop_in
    split
    · omega
    · exact hy
  · have key : ∀ k : Nat, k ≤ 5 → zfor (ztop_out c) 0 (-1) k ≤ 8 := by
      intro k
      induction k with
      | zero => intro _; show (-1 : Int) ≤ 8; omega
      | succ k ih =>
        intro hk
        have h0 := ih (by omega)
        show ztop_out c (0 + k) _ ≤ 8
        unfold ztop_out
        have key2 : ∀ q : Nat, q ≤ 5 → zfor (ztop_in c (0 + k)) 0 (zfor (ztop_out c) 0 (-1) k) q ≤ 8 := by
          intro q
          induction q with
          | zero => intro _; exact h0
          | succ q ih2 =>
            intro hq
            have h3 := ih2 (by omega)
            show ztop_in c (0 + k) (0 + q) (zfor (ztop_in c (0 + k)) 0 (zfor (ztop_out c) 0 (-1) k) q) ≤ 8
            generalize zfor (ztop_in c (0 + k)) 0 (zfor (ztop_out c) 0 (-1) k) q = w at h3
            show (if c ((0 + (k : Int)) * 5 + (0 + (q : Int))).toNat ≠ 0 then max w (0 + (k : Int) + (0 + (q : Int))) else w) ≤ 8
            split
            · omega
            · exact h3
        exact key2 _ (by omega)
    exact key 5 (by omega)
set_option maxRecDepth 100000 in
set_option maxHeartbeats 4000000 in
/-- increase -/
theorem c_increase (l : Launch) {D : va_G} {cI cJ cZ cP cS cM : ClassId} {L : List Nat} {sz : Nat} {f : Nat → va_E} (h0 h : Nat) (c : Nat → Int) (i j n p : Int) (hf0 : f h0 = .inr (2, [.ref h])) (hf1 : f h = zA cI 25 c) (hc : zcan p c) (hp : 2 ≤ p ∧ p ≤ 31) (hn : -1000000 ≤ n ∧ n ≤ 1000000) (hi : -2147483648 ≤ i ∧ i ≤ 2147483647) (hj : -2147483648 ≤ j ∧ j ≤ 2147483647) : zMv l yX2_increase wsX2_increase 2 44 D (zT cI cJ cZ cP cS cM) L sz f [.ref h0, .int (zI i), .int (zI j), .int (zI n), .int (zI p)] (fun g => g = va_up f h (zA cI 25 (zput c i j ((zat c i j + n) % p)))) := by
  refine zWalk.met (nL := 5) (ret := none) (cc := cX2_increase) (by decide) rfl (Nat.le_of_ble_eq_true rfl) ?_
  intro pg en st mi ag bl mt cd ls CX hW hl
  have CX : zC pg st mi ag mt cd cX2_increase 5 none RX2 wsX2_increase := CX
  generalize hQ : MQ bl _ ag st 0 0 _ = Q
  have hX0 := CX.1
  have hB0 := CX.2.1
  have hl : lv_has ls 5 [(0, .ref h0), (1, .int (zI i)), (2, .int (zI j)), (3, .int (zI n)), (4, .int (zI p))] := hl
  obtain ⟨H, eH⟩ : ∃ H, H = st.heap := ⟨_, rfl⟩
  obtain ⟨locs, eL⟩ : ∃ L : List Loc, L = [] := ⟨_, rfl⟩
  have hW : zW D (zT cI cJ cZ cP cS cM) L (zQ L sz) st f st.heap H locs := by rw [eH, eL]; exact hW
  suffices hgo : W pg l en ({ frames := 2, cells := 0, slots := 0, locals := 44 } : Room) st mi ag bl mt cd H locs 0 0 Q (F0 mi 0 ls []) by rw [eH, eL] at hgo; exact hgo
  clear eH eL
  refine lv_aload_n hX0 hB0 dX2_increase_0 rfl (lv_at hl 0 rfl) ?_
  refine lv_iload_n hX0 hB0 dX2_increase_1 rfl (lv_at hl 1 rfl) ?_
  refine lv_iload_n hX0 hB0 dX2_increase_2 rfl (lv_at hl 2 rfl) ?_
  refine lv_aload_n hX0 hB0 dX2_increase_3 rfl (lv_at hl 0 rfl) ?_
  refine lv_iload_n hX0 hB0 dX2_increase_4 rfl (lv_at hl 1 rfl) ?_
  refine lv_iload_n hX0 hB0 dX2_increase_5 rfl (lv_at hl 2 rfl) ?_
  refine z_calli hW (va_runV (C := RX2) (As := [.int (zI i), .int (zI j)]) (rest := [.int (zI j), .int (zI i), .ref h0]) CX.fix (c_at l (f := f) h0 h c i j hf0 hf1 (by constructor <;> omega) (by constructor <;> omega)) (cwV 2 CX.fix.2.2.2.2 gX2_increase_X2_at rfl rfl rfl (by decide +kernel) ⟨Nat.le_of_ble_eq_true rfl, Nat.le_of_ble_eq_true rfl⟩) (z_preV CX hW (r := (RX2, TX2, 1)) hf0 rfl) rfl rfl hl.1 rfl (lv_room (Nat.le_of_ble_eq_true rfl)) dX2_increase_6 ⟨Nat.zero_le _, Nat.zero_le _⟩) (fun zv gn H locs hok6 hW => ?_)
  obtain ⟨ez, eg⟩ := hok6
  have eg : gn = f := eg
  rw [eg] at hW
  clear eg
  have ez : zv = zat c i j := ez
  rw [ez]
  clear ez
  have ha := zat_can (p := p) (by omega) hc i j
  refine lv_iload_n hX0 hB0 dX2_increase_9 rfl (lv_at hl 3 rfl) ?_
  refine z_iadd (z := (zat c i j) + n) CX dX2_increase_10 rfl ?_
  refine lv_iload hX0 hB0 dX2_increase_11 (lv_at hl 4 rfl) ?_
  refine z_calli hW (va_runSN (As := [.int (zI ((zat c i j) + n)), .int (zI p)]) (rest := [.int (zI j), .int (zI i), .ref h0]) CX.fix (c_mod l (f := f) ((zat c i j) + n) p (by constructor <;> omega) (by constructor <;> omega)) ⟨va_cnB (own := RX2) (host := "CurveMeets") (index := 23) 2 CX.fix.2.2.2.2 ggX2_increase_X11_mod rfl rfl rfl (CX.2.2.2.2.2.2.2.1 _ (by decide +kernel)) (CX.at (List.mem_of_getElem? (i := 11) rfl)) (by decide +kernel) ⟨Nat.le_of_ble_eq_true rfl, Nat.le_of_ble_eq_true rfl⟩, CX.at (List.mem_of_getElem? (i := 10) rfl), trivial⟩ (z_preS CX hW) rfl rfl hl.1 rfl (lv_room (Nat.le_of_ble_eq_true rfl)) dX2_increase_13 ⟨Nat.zero_le _, Nat.zero_le _⟩) (fun zv gn H locs hok13 hW => ?_)
  obtain ⟨ez, eg⟩ := hok13
  have eg : gn = f := eg
  rw [eg] at hW
  clear eg
  have ez : zv = ((zat c i j) + n) % p := ez
  rw [ez]
  clear ez
  have hm13 := zmr ((zat c i j) + n) (p := p) (by omega)
  refine z_callv hW (va_runV (C := RX2) (As := [.int (zI i), .int (zI j), .int (zI (((zat c i j) + n) % p))]) (rest := []) CX.fix (c_put l (f := f) h0 h c i j (((zat c i j) + n) % p) hf0 hf1 (by constructor <;> omega) (by constructor <;> omega)) (cwV 3 CX.fix.2.2.2.2 gX2_increase_X2_put rfl rfl rfl (by decide +kernel) ⟨Nat.le_of_ble_eq_true rfl, Nat.le_of_ble_eq_true rfl⟩) (z_preV CX hW (r := (RX2, TX2, 1)) hf0 rfl) rfl rfl hl.1 rfl (lv_room (Nat.le_of_ble_eq_true rfl)) dX2_increase_16 ⟨Nat.zero_le _, Nat.zero_le _⟩) (fun gn H locs hok16 hW => ?_)
  have eg : gn = va_up f h (zA cI 25 (zput c i j (((zat c i j) + n) % p))) := hok16
  rw [eg] at hW
  clear eg
  rw [← hQ]
  exact z_vret CX hW (by rfl) dX2_increase_19
set_option maxRecDepth 100000 in
set_option maxHeartbeats 4000000 in
/-- top: the degree -/
theorem c_top (l : Launch) {D : va_G} {cI cJ cZ cP cS cM : ClassId} {L : List Nat} {sz : Nat} {f : Nat → va_E} (h0 h : Nat) (c : Nat → Int) (hf0 : f h0 = .inr (2, [.ref h])) (hf1 : f h = zA cI 25 c) (hc : zcan 31 c) : zMi l yX2_top wsX2_top 1 21 D (zT cI cJ cZ cP cS cM) L sz f [.ref h0] (fun z g => z = ztop c ∧ g = f) := by
  refine zWalk.met (nL := 4) (ret := (some .int)) (cc := cX2_top) (by decide) rfl (Nat.le_of_ble_eq_true rfl) ?_
  intro pg en st mi ag bl mt cd ls CX hW hl
  have CX : zC pg st mi ag mt cd cX2_top 4 (some .int) RX2 wsX2_top := CX
  generalize hQ : MQ bl _ ag st 0 0 _ = Q
  have hX0 := CX.1
  have hB0 := CX.2.1
  have hl : lv_has ls 4 [(0, .ref h0)] := hl
  obtain ⟨H, eH⟩ : ∃ H, H = st.heap := ⟨_, rfl⟩
  obtain ⟨locs, eL⟩ : ∃ L : List Loc, L = [] := ⟨_, rfl⟩
  have hW : zW D (zT cI cJ cZ cP cS cM) L (zQ L sz) st f st.heap H locs := by rw [eH, eL]; exact hW
  suffices hgo : W pg l en ({ frames := 1, cells := 0, slots := 0, locals := 21 } : Room) st mi ag bl mt cd H locs 0 0 Q (F0 mi 0 ls []) by rw [eH, eL] at hgo; exact hgo
  clear eH eL
  refine lv_iconst (v := zI (-1)) hX0 hB0 dX2_top_0 rfl ?_
  refine lv_istore_n (lv' := [(1, .int (zI (-1))), (0, .ref h0)]) hX0 hB0 dX2_top_1 rfl hl (by decide) rfl (fun ls hl => ?_)
  refine lv_iconst (v := zI 0) hX0 hB0 dX2_top_2 rfl ?_
  refine lv_istore_n (lv' := [(2, .int (zI 0)), (1, .int (zI (-1))), (0, .ref h0)]) hX0 hB0 dX2_top_3 rfl hl (by decide) rfl (fun ls hl => ?_)
  have hL4 : ∀ (fu : Nat) (i : Int) (t : Int), (0 ≤ i ∧ i ≤ 5 ∧ t = zfor (ztop_out c) 0 (-1) (i - 0).toNat ∧ -1 ≤ t ∧ t ≤ 8) → (5 - i).toNat < fu → ∀ (H : Heap) (locs : List Loc) (ls : Array Slot), zW D (zT cI cJ cZ cP cS cM) L (zQ L sz) st f st.heap H locs → lv_has ls 4 [(2, .int (zI i)), (1, .int (zI t)), (0, .ref h0)] → W pg l en ({ frames := 1, cells := 0, slots := 0, locals := 21 } : Room) st mi ag bl mt cd H locs 0 0 Q (F0 mi 4 ls []) := by
    intro fu
    induction fu with
    | zero => intro i t _ hfu; exact absurd hfu (Nat.not_lt_zero _)
    | succ fu ih4 =>
      intro i t hinv4 hfu4 H locs ls hW hl
      obtain ⟨hi0, hi1, hto, ht0, ht1⟩ := hinv4
      refine lv_iload_n hX0 hB0 dX2_top_4 rfl (lv_at hl 0 rfl) ?_
      refine lv_iconst (v := zI 4) hX0 hB0 dX2_top_5 rfl ?_
      refine z_icmp_gt (tgt := 51) CX dX2_top_6 (by decide) (by constructor <;> omega) (by constructor <;> omega) (fun c_6 => ?_) (fun c_6 => ?_)
      ·
        refine lv_iload_n hX0 hB0 dX2_top_51 rfl (lv_at hl 1 rfl) ?_
        rw [← hQ]
        exact z_iret (z := t) CX hW (by exact ⟨by rw [hto, ztop_eq]; congr 1; omega, rfl⟩) rfl dX2_top_52
      ·
        refine lv_iconst (v := zI 0) hX0 hB0 dX2_top_9 rfl ?_
        refine lv_istore_n (lv' := [(3, .int (zI 0)), (2, .int (zI i)), (1, .int (zI t)), (0, .ref h0)]) hX0 hB0 dX2_top_10 rfl hl (by decide) rfl (fun ls hl => ?_)
        have hL11 : ∀ (fu : Nat) (j : Int) (q : Int), (0 ≤ j ∧ j ≤ 4 - i + 1 ∧ q = zfor (ztop_in c i) 0 t (j - 0).toNat ∧ -1 ≤ q ∧ q ≤ 8) → (5 - j).toNat < fu → ∀ (H : Heap) (locs : List Loc) (ls : Array Slot), zW D (zT cI cJ cZ cP cS cM) L (zQ L sz) st f st.heap H locs → lv_has ls 4 [(3, .int (zI j)), (2, .int (zI i)), (1, .int (zI q)), (0, .ref h0)] → W pg l en ({ frames := 1, cells := 0, slots := 0, locals := 21 } : Room) st mi ag bl mt cd H locs 0 0 Q (F0 mi 11 ls []) := by
          intro fu
          induction fu with
          | zero => intro j q _ hfu; exact absurd hfu (Nat.not_lt_zero _)
          | succ fu ih11 =>
            intro j q hinv11 hfu11 H locs ls hW hl
            obtain ⟨hj0, hj1, hti, hq0, hq1⟩ := hinv11
            refine lv_iload_n hX0 hB0 dX2_top_11 rfl (lv_at hl 0 rfl) ?_
            refine lv_iconst (v := zI 4) hX0 hB0 dX2_top_12 rfl ?_
            refine lv_iload_n hX0 hB0 dX2_top_13 rfl (lv_at hl 1 rfl) ?_
            refine z_isub (z := 4 - i) CX dX2_top_14 rfl ?_
            refine z_icmp_gt (tgt := 45) CX dX2_top_15 (by decide) (by constructor <;> omega) (by constructor <;> omega) (fun c_15 => ?_) (fun c_15 => ?_)
            ·
              refine lv_iinc (v := zI (i + 1)) (lv' := [(2, .int (zI (i + 1))), (3, .int (zI j)), (1, .int (zI q)), (0, .ref h0)]) hX0 hB0 dX2_top_45 hl (k := 1) rfl (zI_add _ _) (by decide) rfl (fun ls hl => ?_)
              refine lv_goto (tgt := 4) hX0 hB0 dX2_top_48 (by decide) ?_
              exact ih4 (i + 1) q ⟨by omega, by omega, by rw [zfor_s _ _ _ hi0, ← hto, hti]; show zfor _ 0 t _ = zfor _ 0 t _; congr 1; omega, by omega, by omega⟩ (by omega) H locs ls hW (lv_sub hl [0, 2, 3] rfl)
            ·
              refine lv_aload_n hX0 hB0 dX2_top_18 rfl (lv_at hl 3 rfl) ?_
              refine z_get (Cn := RX2) (T := TX2) (N := 1) CX hW (v := .ref h) hf0 rfl (fun w h => List.mem_cons_of_mem _ (List.mem_append_right _ h)) 0 (by decide) (List.mem_of_getElem? (i := 1) rfl) rfl rfl dX2_top_19 ?_
              refine lv_iload_n hX0 hB0 dX2_top_22 rfl (lv_at hl 1 rfl) ?_
              refine lv_iconst (v := zI 5) hX0 hB0 dX2_top_23 rfl ?_
              refine z_imul (z := i * 5) CX dX2_top_24 rfl ?_
              refine lv_iload_n hX0 hB0 dX2_top_25 rfl (lv_at hl 0 rfl) ?_
              refine z_iadd (z := (i * 5) + j) CX dX2_top_26 rfl ?_
              refine z_iald (z := c (((i * 5) + j).toNat)) CX hW hf1 0 rfl (by refine ⟨?_, ?_, ?_⟩ <;> omega) rfl dX2_top_27 ?_
              have hr1 := hc (((i * 5) + j).toNat)
              refine z_if_eq (tgt := 39) CX dX2_top_28 (by decide) (by constructor <;> omega) (fun c_28 => ?_) (fun c_28 => ?_)
              ·
                refine lv_iinc (v := zI (j + 1)) (lv' := [(3, .int (zI (j + 1))), (2, .int (zI i)), (1, .int (zI q)), (0, .ref h0)]) hX0 hB0 dX2_top_39 hl (k := 0) rfl (zI_add _ _) (by decide) rfl (fun ls hl => ?_)
                refine lv_goto (tgt := 11) hX0 hB0 dX2_top_42 (by decide) ?_
                exact ih11 (j + 1) q ⟨by omega, by omega, by rw [zfor_s _ _ _ hj0, ← hti]; first | exact (if_neg (fun h => h c_28)).symm | exact (if_pos c_28).symm, by omega, by omega⟩ (by omega) H locs ls hW (lv_sub hl [0, 1, 2, 3] rfl)
              ·
                refine lv_iload_n hX0 hB0 dX2_top_31 rfl (lv_at hl 2 rfl) ?_
                refine lv_iload_n hX0 hB0 dX2_top_32 rfl (lv_at hl 1 rfl) ?_
                refine lv_iload_n hX0 hB0 dX2_top_33 rfl (lv_at hl 0 rfl) ?_
                refine z_iadd (z := i + j) CX dX2_top_34 rfl ?_
                refine z_mmax (z := max q (i + j)) CX hW hl.1 (CX.at (List.mem_of_getElem? (i := 2) rfl)) (CX.at (List.mem_of_getElem? (i := 3) rfl)) (CX.at (List.mem_of_getElem? (i := 4) rfl)) (CX.at (List.mem_of_getElem? (i := 5) rfl)) (Nat.le_of_ble_eq_true rfl) (Nat.le_of_ble_eq_true rfl) (Nat.zero_le _) (Nat.zero_le _) (by constructor <;> omega) (by constructor <;> omega) rfl dX2_top_35 ?_
                refine lv_istore_n (lv' := [(1, .int (zI (max q (i + j)))), (3, .int (zI j)), (2, .int (zI i)), (0, .ref h0)]) hX0 hB0 dX2_top_38 rfl hl (by decide) rfl (fun ls hl => ?_)
                refine lv_iinc (v := zI (j + 1)) (lv' := [(3, .int (zI (j + 1))), (1, .int (zI (max q (i + j)))), (2, .int (zI i)), (0, .ref h0)]) hX0 hB0 dX2_top_39 hl (k := 1) rfl (zI_add _ _) (by decide) rfl (fun ls hl => ?_)
                refine lv_goto (tgt := 11) hX0 hB0 dX2_top_42 (by decide) ?_
                exact ih11 (j + 1) (max q (i + j)) ⟨by omega, by omega, by rw [zfor_s _ _ _ hj0, ← hti]; first | exact (if_neg (fun h => h c_28)).symm | exact (if_pos c_28).symm, by omega, by omega⟩ (by omega) H locs ls hW (lv_sub hl [0, 2, 1, 3] rfl)
        exact hL11 _ 0 t ⟨by omega, by omega, rfl, ht0, ht1⟩ (Nat.lt_succ_self _) H locs ls hW (lv_sub hl [0, 1, 2, 3] rfl)
  exact hL4 _ 0 (-1) ⟨by omega, by omega, rfl, by omega, by omega⟩ (Nat.lt_succ_self _) H locs ls hW (lv_sub hl [0, 1, 2] rfl)
theorem zlead_init (c : Nat → Int) (d : Int) : zlead c d = (if d ≤ 4 then zleadF c d (min d 4 + 1).toNat else -1) := by
  unfold zlead
  by_cases h4 : d ≤ 4
  · rw [if_pos h4, if_pos h4, show min d 4 = d by omega]
  · rw [if_neg h4, if_neg h4]
theorem zleadF_rng (c : Nat → Int) (d : Int) : ∀ k : Nat, -1 ≤ zleadF c d k ∧ zleadF c d k ≤ (k : Int) - 1
  | 0 => by simp only [zleadF]; omega
  | k + 1 => by
    have h := zleadF_rng c d k
    simp only [zleadF]
    split <;> omega
theorem zlead_rng (c : Nat → Int) (d : Int) (hd : -1 ≤ d) : -1 ≤ zlead c d ∧ zlead c d ≤ 4 ∧ zlead c d ≤ d := by
  unfold zlead
  split
  · have h := zleadF_rng c d (d + 1).toNat
    omega
  · omega
set_option maxRecDepth 100000 in
set_option maxHeartbeats 4000000 in
/-- leadAt -/
theorem c_leadAt (l : Launch) {D : va_G} {cI cJ cZ cP cS cM : ClassId} {L : List Nat} {sz : Nat} {f : Nat → va_E} (h0 h : Nat) (c : Nat → Int) (d : Int) (hf0 : f h0 = .inr (2, [.ref h])) (hf1 : f h = zA cI 25 c) (hc : zcan 31 c) (hd : -1000 ≤ d ∧ d ≤ 1000) : zMi l yX2_leadAt wsX2_leadAt 1 21 D (zT cI cJ cZ cP cS cM) L sz f [.ref h0, .int (zI d)] (fun z g => z = zlead c d ∧ g = f) := by
  refine zWalk.met (nL := 3) (ret := (some .int)) (cc := cX2_leadAt) (by decide) rfl (Nat.le_of_ble_eq_true rfl) ?_
  intro pg en st mi ag bl mt cd ls CX hW hl
  have CX : zC pg st mi ag mt cd cX2_leadAt 3 (some .int) RX2 wsX2_leadAt := CX
  generalize hQ : MQ bl _ ag st 0 0 _ = Q
  have hX0 := CX.1
  have hB0 := CX.2.1
  have hl : lv_has ls 3 [(0, .ref h0), (1, .int (zI d))] := hl
  obtain ⟨H, eH⟩ : ∃ H, H = st.heap := ⟨_, rfl⟩
  obtain ⟨locs, eL⟩ : ∃ L : List Loc, L = [] := ⟨_, rfl⟩
  have hW : zW D (zT cI cJ cZ cP cS cM) L (zQ L sz) st f st.heap H locs := by rw [eH, eL]; exact hW
  suffices hgo : W pg l en ({ frames := 1, cells := 0, slots := 0, locals := 21 } : Room) st mi ag bl mt cd H locs 0 0 Q (F0 mi 0 ls []) by rw [eH, eL] at hgo; exact hgo
  clear eH eL
  refine lv_iload_n hX0 hB0 dX2_leadAt_0 rfl (lv_at hl 1 rfl) ?_
  refine lv_iconst (v := zI 4) hX0 hB0 dX2_leadAt_1 rfl ?_
  refine z_mmin (z := min d 4) CX hW hl.1 (CX.at (List.mem_of_getElem? (i := 1) rfl)) (CX.at (List.mem_of_getElem? (i := 2) rfl)) (CX.at (List.mem_of_getElem? (i := 3) rfl)) (CX.at (List.mem_of_getElem? (i := 4) rfl)) (Nat.le_of_ble_eq_true rfl) (Nat.le_of_ble_eq_true rfl) (Nat.zero_le _) (Nat.zero_le _) (by constructor <;> omega) (by constructor <;> omega) rfl dX2_leadAt_2 ?_
  refine lv_istore_n (lv' := [(2, .int (zI (min d 4))), (0, .ref h0), (1, .int (zI d))]) hX0 hB0 dX2_leadAt_5 rfl hl (by decide) rfl (fun ls hl => ?_)
  have hL6 : ∀ (fu : Nat) (i : Int), (-1000 ≤ i ∧ i ≤ 4 ∧ i ≤ d ∧ zlead c d = (if d ≤ 4 then zleadF c d (i + 1).toNat else -1)) → (i + 1).toNat < fu → ∀ (H : Heap) (locs : List Loc) (ls : Array Slot), zW D (zT cI cJ cZ cP cS cM) L (zQ L sz) st f st.heap H locs → lv_has ls 3 [(2, .int (zI i)), (0, .ref h0), (1, .int (zI d))] → W pg l en ({ frames := 1, cells := 0, slots := 0, locals := 21 } : Room) st mi ag bl mt cd H locs 0 0 Q (F0 mi 6 ls []) := by
    intro fu
    induction fu with
    | zero => intro i _ hfu; exact absurd hfu (Nat.not_lt_zero _)
    | succ fu ih6 =>
      intro i hinv6 hfu6 H locs ls hW hl
      obtain ⟨hi0, hi1, hi2, hiz⟩ := hinv6
      refine lv_iload_n hX0 hB0 dX2_leadAt_6 rfl (lv_at hl 0 rfl) ?_
      refine z_if_lt (tgt := 38) CX dX2_leadAt_7 (by decide) (by constructor <;> omega) (fun c_7 => ?_) (fun c_7 => ?_)
      ·
        refine lv_iconst (v := zI (-1)) hX0 hB0 dX2_leadAt_38 rfl ?_
        rw [← hQ]
        exact z_iret (z := -1) CX hW (by first | exact ⟨by rw [hiz, if_neg (by omega)], rfl⟩ | exact ⟨by rw [hiz, show (i + 1).toNat = 0 by omega]; show (-1 : Int) = if d ≤ 4 then (-1 : Int) else -1; rw [ite_self], rfl⟩) rfl dX2_leadAt_39
      ·
        refine lv_iload_n hX0 hB0 dX2_leadAt_10 rfl (lv_at hl 2 rfl) ?_
        refine lv_iconst (v := zI 4) hX0 hB0 dX2_leadAt_11 rfl ?_
        refine z_icmp_gt (tgt := 38) CX dX2_leadAt_12 (by decide) (by constructor <;> omega) (by constructor <;> omega) (fun c_12 => ?_) (fun c_12 => ?_)
        ·
          refine lv_iconst (v := zI (-1)) hX0 hB0 dX2_leadAt_38 rfl ?_
          rw [← hQ]
          exact z_iret (z := -1) CX hW (by first | exact ⟨by rw [hiz, if_neg (by omega)], rfl⟩ | exact ⟨by rw [hiz, show (i + 1).toNat = 0 by omega]; show (-1 : Int) = if d ≤ 4 then (-1 : Int) else -1; rw [ite_self], rfl⟩) rfl dX2_leadAt_39
        ·
          refine lv_aload_n hX0 hB0 dX2_leadAt_15 rfl (lv_at hl 1 rfl) ?_
          refine z_get (Cn := RX2) (T := TX2) (N := 1) CX hW (v := .ref h) hf0 rfl (fun w h => List.mem_cons_of_mem _ (List.mem_append_right _ h)) 0 (by decide) (List.mem_of_getElem? (i := 5) rfl) rfl rfl dX2_leadAt_16 ?_
          refine lv_iload_n hX0 hB0 dX2_leadAt_19 rfl (lv_at hl 0 rfl) ?_
          refine lv_iconst (v := zI 5) hX0 hB0 dX2_leadAt_20 rfl ?_
          refine z_imul (z := i * 5) CX dX2_leadAt_21 rfl ?_
          refine lv_iload_n hX0 hB0 dX2_leadAt_22 rfl (lv_at hl 2 rfl) ?_
          refine z_iadd (z := (i * 5) + d) CX dX2_leadAt_23 rfl ?_
          refine lv_iload_n hX0 hB0 dX2_leadAt_24 rfl (lv_at hl 0 rfl) ?_
          refine z_isub (z := ((i * 5) + d) - i) CX dX2_leadAt_25 rfl ?_
          refine z_iald (z := c ((((i * 5) + d) - i).toNat)) CX hW hf1 0 rfl (by refine ⟨?_, ?_, ?_⟩ <;> omega) rfl dX2_leadAt_26 ?_
          have hr1 := hc ((((i * 5) + d) - i).toNat)
          refine z_if_eq (tgt := 32) CX dX2_leadAt_27 (by decide) (by constructor <;> omega) (fun c_27 => ?_) (fun c_27 => ?_)
          ·
            refine lv_iinc (v := zI (i + (-1))) (lv' := [(2, .int (zI (i + (-1)))), (0, .ref h0), (1, .int (zI d))]) hX0 hB0 dX2_leadAt_32 hl (k := 0) rfl (zI_add _ _) (by decide) rfl (fun ls hl => ?_)
            refine lv_goto (tgt := 6) hX0 hB0 dX2_leadAt_35 (by decide) ?_
            exact ih6 (i + (-1)) ⟨by omega, by omega, by omega, by rw [hiz, if_pos (by omega), if_pos (by omega), zleadF_s c d (by omega), if_neg (fun h => h c_27)]; rfl⟩ (by omega) H locs ls hW (lv_sub hl [0, 1, 2] rfl)
          ·
            refine lv_iload_n hX0 hB0 dX2_leadAt_30 rfl (lv_at hl 0 rfl) ?_
            rw [← hQ]
            exact z_iret (z := i) CX hW (by exact ⟨by rw [hiz, if_pos (by omega), zleadF_s c d (by omega), if_pos c_27], rfl⟩) rfl dX2_leadAt_31
  exact hL6 _ (min d 4) ⟨by omega, by omega, by omega, zlead_init c d⟩ (Nat.lt_succ_self _) H locs ls hW (lv_sub hl [0, 1, 2] rfl)
set_option maxRecDepth 100000 in
set_option maxHeartbeats 4000000 in
/-- setTo -/
theorem c_setTo (l : Launch) {D : va_G} {cI cJ cZ cP cS cM : ClassId} {L : List Nat} {sz : Nat} {f : Nat → va_E} (h0 h : Nat) (c : Nat → Int) (n : Int) (hf0 : f h0 = .inr (2, [.ref h])) (hf1 : f h = zA cI 25 c) : zMv l yX2_setTo wsX2_setTo 0 0 D (zT cI cJ cZ cP cS cM) L sz f [.ref h0, .int (zI n)] (fun g => g = va_up f h (zA cI 25 (zone n))) := by
  refine zWalk.met (nL := 3) (ret := none) (cc := cX2_setTo) (by decide) rfl (Nat.le_of_ble_eq_true rfl) ?_
  intro pg en st mi ag bl mt cd ls CX hW hl
  have CX : zC pg st mi ag mt cd cX2_setTo 3 none RX2 wsX2_setTo := CX
  generalize hQ : MQ bl _ ag st 0 0 _ = Q
  have hX0 := CX.1
  have hB0 := CX.2.1
  have hl : lv_has ls 3 [(0, .ref h0), (1, .int (zI n))] := hl
  obtain ⟨H, eH⟩ : ∃ H, H = st.heap := ⟨_, rfl⟩
  obtain ⟨locs, eL⟩ : ∃ L : List Loc, L = [] := ⟨_, rfl⟩
  have hW : zW D (zT cI cJ cZ cP cS cM) L (zQ L sz) st f st.heap H locs := by rw [eH, eL]; exact hW
  suffices hgo : W pg l en ({ frames := 0, cells := 0, slots := 0, locals := 0 } : Room) st mi ag bl mt cd H locs 0 0 Q (F0 mi 0 ls []) by rw [eH, eL] at hgo; exact hgo
  clear eH eL
  refine lv_iconst (v := zI 0) hX0 hB0 dX2_setTo_0 rfl ?_
  refine lv_istore_n (lv' := [(2, .int (zI 0)), (0, .ref h0), (1, .int (zI n))]) hX0 hB0 dX2_setTo_1 rfl hl (by decide) rfl (fun ls hl => ?_)
  have hL2 : ∀ (fu : Nat) (k : Int) (cc : Nat → Int), (0 ≤ k ∧ k ≤ 25 ∧ ∀ j : Nat, (j : Int) < k → cc j = zone n j) → (25 - k).toNat < fu → ∀ (H : Heap) (locs : List Loc) (ls : Array Slot), zW D (zT cI cJ cZ cP cS cM) L (zQ L sz) st (va_up f h (zA cI 25 cc)) st.heap H locs → lv_has ls 3 [(2, .int (zI k)), (0, .ref h0), (1, .int (zI n))] → W pg l en ({ frames := 0, cells := 0, slots := 0, locals := 0 } : Room) st mi ag bl mt cd H locs 0 0 Q (F0 mi 2 ls []) := by
    intro fu
    induction fu with
    | zero => intro k cc _ hfu; exact absurd hfu (Nat.not_lt_zero _)
    | succ fu ih2 =>
      intro k cc hinv2 hfu2 H locs ls hW hl
      obtain ⟨hk0, hk1, hck⟩ := hinv2
      refine lv_iload_n hX0 hB0 dX2_setTo_2 rfl (lv_at hl 0 rfl) ?_
      refine lv_aload_n hX0 hB0 dX2_setTo_3 rfl (lv_at hl 1 rfl) ?_
      refine z_get (Cn := RX2) (T := TX2) (N := 1) CX hW (v := .ref h) ((va_up_ne _ _ (zne hf0 hf1 zoi)).trans hf0) rfl (fun w h => List.mem_cons_of_mem _ (List.mem_append_right _ h)) 0 (by decide) (List.mem_of_getElem? (i := 1) rfl) rfl rfl dX2_setTo_4 ?_
      refine z_alen (n := 25) CX hW (va_up_self _ _ _) 0 rfl rfl dX2_setTo_7 ?_
      refine z_icmp_ge (tgt := 32) CX dX2_setTo_8 (by decide) (by constructor <;> omega) (by constructor <;> omega) (fun c_8 => ?_) (fun c_8 => ?_)
      ·
        have hW := hW.same (d := zone n) (fun j hj => hck j (by omega))
        rw [← hQ]
        exact z_vret CX hW (by rfl) dX2_setTo_32
      ·
        refine lv_aload_n hX0 hB0 dX2_setTo_11 rfl (lv_at hl 1 rfl) ?_
        refine z_get (Cn := RX2) (T := TX2) (N := 1) CX hW (v := .ref h) ((va_up_ne _ _ (zne hf0 hf1 zoi)).trans hf0) rfl (fun w h => List.mem_cons_of_mem _ (List.mem_append_right _ h)) 0 (by decide) (List.mem_of_getElem? (i := 1) rfl) rfl rfl dX2_setTo_12 ?_
        refine lv_iload_n hX0 hB0 dX2_setTo_15 rfl (lv_at hl 0 rfl) ?_
        refine lv_iload_n hX0 hB0 dX2_setTo_16 rfl (lv_at hl 0 rfl) ?_
        refine z_if_ne (tgt := 24) CX dX2_setTo_17 (by decide) (by constructor <;> omega) (fun c_17 => ?_) (fun c_17 => ?_)
        ·
          refine lv_iconst (v := zI 0) hX0 hB0 dX2_setTo_24 rfl ?_
          refine z_iast CX hW (va_up_self _ _ _) 0 rfl (by refine ⟨?_, ?_, ?_⟩ <;> omega) (g := va_up f h (zA cI 25 (zup cc k.toNat 0))) va_up_up dX2_setTo_25 (fun H locs hW => ?_)
          refine lv_iinc (v := zI (k + 1)) (lv' := [(2, .int (zI (k + 1))), (0, .ref h0), (1, .int (zI n))]) hX0 hB0 dX2_setTo_26 hl (k := 0) rfl (zI_add _ _) (by decide) rfl (fun ls hl => ?_)
          refine lv_goto (tgt := 2) hX0 hB0 dX2_setTo_29 (by decide) ?_
          exact ih2 (k + 1) (zup cc k.toNat 0) ⟨by omega, by omega, zone_step hck hk0 (by unfold zone; first | rw [if_pos (by omega)] | rw [if_neg (by omega)])⟩ (by omega) H locs ls hW (lv_sub hl [0, 1, 2] rfl)
        ·
          refine lv_iload_n hX0 hB0 dX2_setTo_20 rfl (lv_at hl 2 rfl) ?_
          refine lv_goto (tgt := 25) hX0 hB0 dX2_setTo_21 (by decide) ?_
          refine z_iast CX hW (va_up_self _ _ _) 0 rfl (by refine ⟨?_, ?_, ?_⟩ <;> omega) (g := va_up f h (zA cI 25 (zup cc k.toNat n))) va_up_up dX2_setTo_25 (fun H locs hW => ?_)
          refine lv_iinc (v := zI (k + 1)) (lv' := [(2, .int (zI (k + 1))), (0, .ref h0), (1, .int (zI n))]) hX0 hB0 dX2_setTo_26 hl (k := 0) rfl (zI_add _ _) (by decide) rfl (fun ls hl => ?_)
          refine lv_goto (tgt := 2) hX0 hB0 dX2_setTo_29 (by decide) ?_
          exact ih2 (k + 1) (zup cc k.toNat n) ⟨by omega, by omega, zone_step hck hk0 (by unfold zone; first | rw [if_pos (by omega)] | rw [if_neg (by omega)])⟩ (by omega) H locs ls hW (lv_sub hl [0, 1, 2] rfl)
  have hW := hW
  rw [show f = va_up f h (zA cI 25 c) from by rw [va_up_id (a := h) hf1]] at hW
  exact hL2 _ 0 c ⟨by omega, by omega, fun j hj => by omega⟩ (Nat.lt_succ_self _) H locs ls hW (lv_sub hl [0, 1, 2] rfl)
set_option maxRecDepth 100000 in
set_option maxHeartbeats 4000000 in
/-- copy -/
theorem c_copy (l : Launch) {D : va_G} {cI cJ cZ cP cS cM : ClassId} {L : List Nat} {sz : Nat} {f : Nat → va_E} (h0 h : Nat) (c : Nat → Int) (h1 ha : Nat) (d : Nat → Int) (hf0 : f h0 = .inr (2, [.ref h])) (hf1 : f h = zA cI 25 c) (hg0 : f h1 = .inr (2, [.ref ha])) (hg1 : f ha = zA cI 25 d) : zMv l yX2_copy wsX2_copy 1 32 D (zT cI cJ cZ cP cS cM) L sz f [.ref h0, .ref h1] (fun g => g = va_up f h (zA cI 25 d)) := by
  refine zWalk.met (nL := 2) (ret := none) (cc := cX2_copy) (by decide) rfl (Nat.le_of_ble_eq_true rfl) ?_
  intro pg en st mi ag bl mt cd ls CX hW hl
  have CX : zC pg st mi ag mt cd cX2_copy 2 none RX2 wsX2_copy := CX
  generalize hQ : MQ bl _ ag st 0 0 _ = Q
  have hX0 := CX.1
  have hB0 := CX.2.1
  have hl : lv_has ls 2 [(0, .ref h0), (1, .ref h1)] := hl
  obtain ⟨H, eH⟩ : ∃ H, H = st.heap := ⟨_, rfl⟩
  obtain ⟨locs, eL⟩ : ∃ L : List Loc, L = [] := ⟨_, rfl⟩
  have hW : zW D (zT cI cJ cZ cP cS cM) L (zQ L sz) st f st.heap H locs := by rw [eH, eL]; exact hW
  suffices hgo : W pg l en ({ frames := 1, cells := 0, slots := 0, locals := 32 } : Room) st mi ag bl mt cd H locs 0 0 Q (F0 mi 0 ls []) by rw [eH, eL] at hgo; exact hgo
  clear eH eL
  refine lv_aload_n hX0 hB0 dX2_copy_0 rfl (lv_at hl 1 rfl) ?_
  refine z_get (Cn := RX2) (T := TX2) (N := 1) CX hW (v := .ref ha) hg0 rfl (fun w h => List.mem_cons_of_mem _ (List.mem_append_right _ h)) 0 (by decide) (List.mem_of_getElem? (i := 1) rfl) rfl rfl dX2_copy_1 ?_
  refine lv_iconst (v := zI 0) hX0 hB0 dX2_copy_4 rfl ?_
  refine lv_aload_n hX0 hB0 dX2_copy_5 rfl (lv_at hl 0 rfl) ?_
  refine z_get (Cn := RX2) (T := TX2) (N := 1) CX hW (v := .ref h) hf0 rfl (fun w h => List.mem_cons_of_mem _ (List.mem_append_right _ h)) 0 (by decide) (List.mem_of_getElem? (i := 1) rfl) rfl rfl dX2_copy_6 ?_
  refine lv_iconst (v := zI 0) hX0 hB0 dX2_copy_9 rfl ?_
  refine lv_aload_n hX0 hB0 dX2_copy_10 rfl (lv_at hl 0 rfl) ?_
  refine z_get (Cn := RX2) (T := TX2) (N := 1) CX hW (v := .ref h) hf0 rfl (fun w h => List.mem_cons_of_mem _ (List.mem_append_right _ h)) 0 (by decide) (List.mem_of_getElem? (i := 1) rfl) rfl rfl dX2_copy_11 ?_
  refine z_alen (n := 25) CX hW hf1 0 rfl rfl dX2_copy_14 ?_
  refine z_copyi CX hW hl.1 (CX.at (List.mem_of_getElem? (i := 2) rfl)) (CX.at (List.mem_of_getElem? (i := 3) rfl)) (CX.at (List.mem_of_getElem? (i := 4) rfl)) (CX.at (List.mem_of_getElem? (i := 5) rfl)) hg1 hf1 0 rfl (by refine ⟨?_, ?_, ?_, ?_, ?_, ?_⟩ <;> omega) (g := va_up f h (zA cI 25 (zcpy d c ((0 : Int).toNat) ((0 : Int).toNat) ((25 : Int).toNat)))) rfl (Nat.le_of_ble_eq_true rfl) (Nat.le_of_ble_eq_true rfl) dX2_copy_15 (fun H locs hW => ?_)
  have hW := hW.same (d := d) (fun k hk => by unfold zcpy va_cpy; rw [if_pos ⟨by omega, by omega⟩]; congr 1; omega)
  rw [← hQ]
  exact z_vret CX hW (by rfl) dX2_copy_18
set_option maxRecDepth 100000 in
set_option maxHeartbeats 4000000 in
/-- addShifted -/
theorem c_addShifted (l : Launch) {D : va_G} {cI cJ cZ cP cS cM : ClassId} {L : List Nat} {sz : Nat} {f : Nat → va_E} (h0 h : Nat) (c : Nat → Int) (h1 ha : Nat) (d : Nat → Int) (r u o p : Int) (hf0 : f h0 = .inr (2, [.ref h])) (hf1 : f h = zA cI 25 c) (hg0 : f h1 = .inr (2, [.ref ha])) (hg1 : f ha = zA cI 25 d) (hne : h ≠ ha) (hc : zcan 31 c) (hd : zcan 31 d) (hr : 0 ≤ r ∧ r ≤ 1000) (hu : 0 ≤ u ∧ u ≤ 1000) (ho : 0 ≤ o ∧ o ≤ 31) (hp : 2 ≤ p ∧ p ≤ 31) : zMv l yX2_addShifted wsX2_addShifted 0 0 D (zT cI cJ cZ cP cS cM) L sz f [.ref h0, .ref h1, .int (zI r), .int (zI u), .int (zI o), .int (zI p)] (fun g => g = va_up f h (zA cI 25 (zaddS c d r u o p))) := by
  refine zWalk.met (nL := 11) (ret := none) (cc := cX2_addShifted) (by decide) rfl (Nat.le_of_ble_eq_true rfl) ?_
  intro pg en st mi ag bl mt cd ls CX hW hl
  have CX : zC pg st mi ag mt cd cX2_addShifted 11 none RX2 wsX2_addShifted := CX
  generalize hQ : MQ bl _ ag st 0 0 _ = Q
  have hX0 := CX.1
  have hB0 := CX.2.1
  have hl : lv_has ls 11 [(0, .ref h0), (1, .ref h1), (2, .int (zI r)), (3, .int (zI u)), (4, .int (zI o)), (5, .int (zI p))] := hl
  obtain ⟨H, eH⟩ : ∃ H, H = st.heap := ⟨_, rfl⟩
  obtain ⟨locs, eL⟩ : ∃ L : List Loc, L = [] := ⟨_, rfl⟩
  have hW : zW D (zT cI cJ cZ cP cS cM) L (zQ L sz) st f st.heap H locs := by rw [eH, eL]; exact hW
  suffices hgo : W pg l en ({ frames := 0, cells := 0, slots := 0, locals := 0 } : Room) st mi ag bl mt cd H locs 0 0 Q (F0 mi 0 ls []) by rw [eH, eL] at hgo; exact hgo
  clear eH eL
  refine lv_iload hX0 hB0 dX2_addShifted_0 (lv_at hl 5 rfl) ?_
  refine lv_iconst (v := zI 2) hX0 hB0 dX2_addShifted_2 rfl ?_
  refine z_icmp_lt (tgt := 14) CX dX2_addShifted_3 (by decide) (by constructor <;> omega) (by constructor <;> omega) (fun c_3 => ?_) (fun c_3 => ?_)
  ·
    omega
  ·
    refine lv_iload_n hX0 hB0 dX2_addShifted_6 rfl (lv_at hl 2 rfl) ?_
    refine z_if_lt (tgt := 14) CX dX2_addShifted_7 (by decide) (by constructor <;> omega) (fun c_7 => ?_) (fun c_7 => ?_)
    ·
      omega
    ·
      refine lv_iload_n hX0 hB0 dX2_addShifted_10 rfl (lv_at hl 3 rfl) ?_
      refine z_if_ge (tgt := 15) CX dX2_addShifted_11 (by decide) (by constructor <;> omega) (fun c_11 => ?_) (fun c_11 => ?_)
      ·
        refine lv_iconst (v := zI 4) hX0 hB0 dX2_addShifted_15 rfl ?_
        refine lv_iload_n hX0 hB0 dX2_addShifted_16 rfl (lv_at hl 2 rfl) ?_
        refine z_isub (z := 4 - r) CX dX2_addShifted_17 rfl ?_
        refine lv_iload_n hX0 hB0 dX2_addShifted_18 rfl (lv_at hl 3 rfl) ?_
        refine z_isub (z := (4 - r) - u) CX dX2_addShifted_19 rfl ?_
        refine lv_istore (lv' := [(6, .int (zI ((4 - r) - u))), (0, .ref h0), (1, .ref h1), (2, .int (zI r)), (3, .int (zI u)), (4, .int (zI o)), (5, .int (zI p))]) hX0 hB0 dX2_addShifted_20 hl (by decide) rfl (fun ls hl => ?_)
        refine lv_iconst (v := zI 0) hX0 hB0 dX2_addShifted_22 rfl ?_
        refine lv_istore (lv' := [(7, .int (zI 0)), (6, .int (zI ((4 - r) - u))), (0, .ref h0), (1, .ref h1), (2, .int (zI r)), (3, .int (zI u)), (4, .int (zI o)), (5, .int (zI p))]) hX0 hB0 dX2_addShifted_23 hl (by decide) rfl (fun ls hl => ?_)
        have hL25 : ∀ (fu : Nat) (i : Int) (co : Nat → Int), (0 ≤ i ∧ (i ≤ 4 - r - u + 1 ∨ i = 0) ∧ co = zfor (zaddS_out d r u o p) 0 c (i - 0).toNat ∧ zcan 31 co) → (6 - i).toNat < fu → ∀ (H : Heap) (locs : List Loc) (ls : Array Slot), zW D (zT cI cJ cZ cP cS cM) L (zQ L sz) st (va_up f h (zA cI 25 co)) st.heap H locs → lv_has ls 11 [(7, .int (zI i)), (6, .int (zI ((4 - r) - u))), (0, .ref h0), (1, .ref h1), (2, .int (zI r)), (3, .int (zI u)), (4, .int (zI o)), (5, .int (zI p))] → W pg l en ({ frames := 0, cells := 0, slots := 0, locals := 0 } : Room) st mi ag bl mt cd H locs 0 0 Q (F0 mi 25 ls []) := by
          intro fu
          induction fu with
          | zero => intro i co _ hfu; exact absurd hfu (Nat.not_lt_zero _)
          | succ fu ih25 =>
            intro i co hinv25 hfu25 H locs ls hW hl
            obtain ⟨hi0, hi1, heo, hco⟩ := hinv25
            refine lv_iload hX0 hB0 dX2_addShifted_25 (lv_at hl 0 rfl) ?_
            refine lv_iload hX0 hB0 dX2_addShifted_27 (lv_at hl 1 rfl) ?_
            refine z_icmp_gt (tgt := 112) CX dX2_addShifted_29 (by decide) (by constructor <;> omega) (by constructor <;> omega) (fun c_29 => ?_) (fun c_29 => ?_)
            ·
              rw [← hQ]
              exact z_vret CX hW (by rw [zaddS_eq, heo, show (i - 0).toNat = (4 - r - u + 1 - 0).toNat by omega]) dX2_addShifted_112
            ·
              refine lv_iconst (v := zI 0) hX0 hB0 dX2_addShifted_32 rfl ?_
              refine lv_istore (lv' := [(8, .int (zI 0)), (7, .int (zI i)), (6, .int (zI ((4 - r) - u))), (0, .ref h0), (1, .ref h1), (2, .int (zI r)), (3, .int (zI u)), (4, .int (zI o)), (5, .int (zI p))]) hX0 hB0 dX2_addShifted_33 hl (by decide) rfl (fun ls hl => ?_)
              have hL35 : ∀ (fu : Nat) (j : Int) (cc : Nat → Int), (0 ≤ j ∧ j ≤ 4 - r - u - i + 1 ∧ cc = zfor (zaddS_in d r u o p i) 0 co (j - 0).toNat ∧ zcan 31 cc) → (6 - j).toNat < fu → ∀ (H : Heap) (locs : List Loc) (ls : Array Slot), zW D (zT cI cJ cZ cP cS cM) L (zQ L sz) st (va_up f h (zA cI 25 cc)) st.heap H locs → lv_has ls 11 [(8, .int (zI j)), (7, .int (zI i)), (6, .int (zI ((4 - r) - u))), (0, .ref h0), (1, .ref h1), (2, .int (zI r)), (3, .int (zI u)), (4, .int (zI o)), (5, .int (zI p))] → W pg l en ({ frames := 0, cells := 0, slots := 0, locals := 0 } : Room) st mi ag bl mt cd H locs 0 0 Q (F0 mi 35 ls []) := by
                intro fu
                induction fu with
                | zero => intro j cc _ hfu; exact absurd hfu (Nat.not_lt_zero _)
                | succ fu ih35 =>
                  intro j cc hinv35 hfu35 H locs ls hW hl
                  obtain ⟨hj0, hj1, hei, hcc⟩ := hinv35
                  refine lv_iload hX0 hB0 dX2_addShifted_35 (lv_at hl 0 rfl) ?_
                  refine lv_iload hX0 hB0 dX2_addShifted_37 (lv_at hl 2 rfl) ?_
                  refine lv_iload hX0 hB0 dX2_addShifted_39 (lv_at hl 1 rfl) ?_
                  refine z_isub (z := ((4 - r) - u) - i) CX dX2_addShifted_41 rfl ?_
                  refine z_icmp_gt (tgt := 106) CX dX2_addShifted_42 (by decide) (by constructor <;> omega) (by constructor <;> omega) (fun c_42 => ?_) (fun c_42 => ?_)
                  ·
                    refine lv_iinc (v := zI (i + 1)) (lv' := [(7, .int (zI (i + 1))), (8, .int (zI j)), (6, .int (zI ((4 - r) - u))), (0, .ref h0), (1, .ref h1), (2, .int (zI r)), (3, .int (zI u)), (4, .int (zI o)), (5, .int (zI p))]) hX0 hB0 dX2_addShifted_106 hl (k := 1) rfl (zI_add _ _) (by decide) rfl (fun ls hl => ?_)
                    refine lv_goto (tgt := 25) hX0 hB0 dX2_addShifted_109 (by decide) ?_
                    exact ih25 (i + 1) cc ⟨by omega, by omega, by rw [zfor_s _ _ _ hi0, ← heo, hei]; show zfor _ 0 co _ = zfor _ 0 co _; congr 1; omega, hcc⟩ (by omega) H locs ls hW (lv_sub hl [0, 2, 3, 4, 5, 6, 7, 8] rfl)
                  ·
                    refine lv_aload_n hX0 hB0 dX2_addShifted_45 rfl (lv_at hl 4 rfl) ?_
                    refine z_get (Cn := RX2) (T := TX2) (N := 1) CX hW (v := .ref ha) ((va_up_ne _ _ (zne hg0 hf1 zoi)).trans hg0) rfl (fun w h => List.mem_cons_of_mem _ (List.mem_append_right _ h)) 0 (by decide) (List.mem_of_getElem? (i := 1) rfl) rfl rfl dX2_addShifted_46 ?_
                    refine lv_iload hX0 hB0 dX2_addShifted_49 (lv_at hl 1 rfl) ?_
                    refine lv_iconst (v := zI 5) hX0 hB0 dX2_addShifted_51 rfl ?_
                    refine z_imul (z := i * 5) CX dX2_addShifted_52 rfl ?_
                    refine lv_iload hX0 hB0 dX2_addShifted_53 (lv_at hl 0 rfl) ?_
                    refine z_iadd (z := (i * 5) + j) CX dX2_addShifted_55 rfl ?_
                    refine z_iald (z := d (((i * 5) + j).toNat)) CX hW ((va_up_ne _ _ (Ne.symm hne)).trans hg1) 0 rfl (by refine ⟨?_, ?_, ?_⟩ <;> omega) rfl dX2_addShifted_56 ?_
                    have hr1 := hd (((i * 5) + j).toNat)
                    refine lv_istore (lv' := [(9, .int (zI (d (((i * 5) + j).toNat)))), (8, .int (zI j)), (7, .int (zI i)), (6, .int (zI ((4 - r) - u))), (0, .ref h0), (1, .ref h1), (2, .int (zI r)), (3, .int (zI u)), (4, .int (zI o)), (5, .int (zI p))]) hX0 hB0 dX2_addShifted_57 hl (by decide) rfl (fun ls hl => ?_)
                    refine lv_iload hX0 hB0 dX2_addShifted_59 (lv_at hl 0 rfl) ?_
                    refine z_if_eq (tgt := 100) CX dX2_addShifted_61 (by decide) (by constructor <;> omega) (fun c_61 => ?_) (fun c_61 => ?_)
                    ·
                      refine lv_iinc (v := zI (j + 1)) (lv' := [(8, .int (zI (j + 1))), (9, .int (zI (d (((i * 5) + j).toNat)))), (7, .int (zI i)), (6, .int (zI ((4 - r) - u))), (0, .ref h0), (1, .ref h1), (2, .int (zI r)), (3, .int (zI u)), (4, .int (zI o)), (5, .int (zI p))]) hX0 hB0 dX2_addShifted_100 hl (k := 1) rfl (zI_add _ _) (by decide) rfl (fun ls hl => ?_)
                      refine lv_goto (tgt := 35) hX0 hB0 dX2_addShifted_103 (by decide) ?_
                      exact ih35 (j + 1) cc ⟨by omega, by omega, by rw [zfor_s _ _ _ hj0, ← hei]; first | exact (if_neg (fun h => h c_61)).symm | exact (if_pos c_61).symm, by first | exact hcc | exact zcan_up hcc _ (by omega)⟩ (by omega) H locs ls hW (lv_sub hl [0, 2, 3, 4, 5, 6, 7, 8, 9] rfl)
                    ·
                      refine lv_iload hX0 hB0 dX2_addShifted_64 (lv_at hl 2 rfl) ?_
                      refine lv_iload_n hX0 hB0 dX2_addShifted_66 rfl (lv_at hl 6 rfl) ?_
                      refine z_iadd (z := i + r) CX dX2_addShifted_67 rfl ?_
                      refine lv_iconst (v := zI 5) hX0 hB0 dX2_addShifted_68 rfl ?_
                      refine z_imul (z := (i + r) * 5) CX dX2_addShifted_69 rfl ?_
                      refine lv_iload hX0 hB0 dX2_addShifted_70 (lv_at hl 1 rfl) ?_
                      refine z_iadd (z := ((i + r) * 5) + j) CX dX2_addShifted_72 rfl ?_
                      refine lv_iload_n hX0 hB0 dX2_addShifted_73 rfl (lv_at hl 7 rfl) ?_
                      refine z_iadd (z := (((i + r) * 5) + j) + u) CX dX2_addShifted_74 rfl ?_
                      refine lv_istore (lv' := [(10, .int (zI ((((i + r) * 5) + j) + u))), (9, .int (zI (d (((i * 5) + j).toNat)))), (8, .int (zI j)), (7, .int (zI i)), (6, .int (zI ((4 - r) - u))), (0, .ref h0), (1, .ref h1), (2, .int (zI r)), (3, .int (zI u)), (4, .int (zI o)), (5, .int (zI p))]) hX0 hB0 dX2_addShifted_75 hl (by decide) rfl (fun ls hl => ?_)
                      refine lv_aload_n hX0 hB0 dX2_addShifted_77 rfl (lv_at hl 5 rfl) ?_
                      refine z_get (Cn := RX2) (T := TX2) (N := 1) CX hW (v := .ref h) ((va_up_ne _ _ (zne hf0 hf1 zoi)).trans hf0) rfl (fun w h => List.mem_cons_of_mem _ (List.mem_append_right _ h)) 0 (by decide) (List.mem_of_getElem? (i := 1) rfl) rfl rfl dX2_addShifted_78 ?_
                      refine lv_iload hX0 hB0 dX2_addShifted_81 (lv_at hl 0 rfl) ?_
                      refine lv_aload_n hX0 hB0 dX2_addShifted_83 rfl (lv_at hl 5 rfl) ?_
                      refine z_get (Cn := RX2) (T := TX2) (N := 1) CX hW (v := .ref h) ((va_up_ne _ _ (zne hf0 hf1 zoi)).trans hf0) rfl (fun w h => List.mem_cons_of_mem _ (List.mem_append_right _ h)) 0 (by decide) (List.mem_of_getElem? (i := 1) rfl) rfl rfl dX2_addShifted_84 ?_
                      refine lv_iload hX0 hB0 dX2_addShifted_87 (lv_at hl 0 rfl) ?_
                      refine z_iald (z := cc (((((i + r) * 5) + j) + u).toNat)) CX hW (va_up_self _ _ _) 0 rfl (by refine ⟨?_, ?_, ?_⟩ <;> omega) rfl dX2_addShifted_89 ?_
                      have hr2 := hcc (((((i + r) * 5) + j) + u).toNat)
                      refine lv_iload hX0 hB0 dX2_addShifted_90 (lv_at hl 9 rfl) ?_
                      refine lv_iload hX0 hB0 dX2_addShifted_92 (lv_at hl 1 rfl) ?_
                      refine z_imul (z := o * (d (((i * 5) + j).toNat))) CX dX2_addShifted_94 rfl ?_
                      refine z_iadd (z := (cc (((((i + r) * 5) + j) + u).toNat)) + (o * (d (((i * 5) + j).toNat)))) CX dX2_addShifted_95 rfl ?_
                      refine lv_iload hX0 hB0 dX2_addShifted_96 (lv_at hl 10 rfl) ?_
                      have hod := zmul_rng (a := o) (b := d (i * 5 + j).toNat) (A := 31) (B := 31) (by omega) (by omega)
                      have hmm := zmr (cc ((i + r) * 5 + j + u).toNat + o * d (i * 5 + j).toNat) (p := p) (by omega)
                      refine z_irem (z := (cc ((i + r) * 5 + j + u).toNat + o * d (i * 5 + j).toNat) % p) CX dX2_addShifted_98 (by constructor <;> omega) (by constructor <;> omega) (Int.tmod_eq_emod_of_nonneg (by omega)) ?_
                      refine z_iast CX hW (va_up_self _ _ _) 0 rfl (by refine ⟨?_, ?_, ?_⟩ <;> omega) (g := va_up f h (zA cI 25 (zup cc (((((i + r) * 5) + j) + u).toNat) ((cc ((i + r) * 5 + j + u).toNat + o * d (i * 5 + j).toNat) % p)))) va_up_up dX2_addShifted_99 (fun H locs hW => ?_)
                      refine lv_iinc (v := zI (j + 1)) (lv' := [(8, .int (zI (j + 1))), (10, .int (zI ((((i + r) * 5) + j) + u))), (9, .int (zI (d (((i * 5) + j).toNat)))), (7, .int (zI i)), (6, .int (zI ((4 - r) - u))), (0, .ref h0), (1, .ref h1), (2, .int (zI r)), (3, .int (zI u)), (4, .int (zI o)), (5, .int (zI p))]) hX0 hB0 dX2_addShifted_100 hl (k := 2) rfl (zI_add _ _) (by decide) rfl (fun ls hl => ?_)
                      refine lv_goto (tgt := 35) hX0 hB0 dX2_addShifted_103 (by decide) ?_
                      exact ih35 (j + 1) (zup cc (((((i + r) * 5) + j) + u).toNat) ((cc ((i + r) * 5 + j + u).toNat + o * d (i * 5 + j).toNat) % p)) ⟨by omega, by omega, by rw [zfor_s _ _ _ hj0, ← hei]; first | exact (if_neg (fun h => h c_61)).symm | exact (if_pos c_61).symm, by first | exact hcc | exact zcan_up hcc _ (by omega)⟩ (by omega) H locs ls hW (lv_sub hl [0, 3, 4, 5, 6, 7, 8, 9, 10] rfl)
              exact hL35 _ 0 co ⟨by omega, by omega, rfl, hco⟩ (Nat.lt_succ_self _) H locs ls hW (lv_sub hl [0, 1, 2, 3, 4, 5, 6, 7, 8] rfl)
        have hW := hW
        rw [show f = va_up f h (zA cI 25 c) from by rw [va_up_id (a := h) hf1]] at hW
        exact hL25 _ 0 c ⟨by omega, by omega, rfl, hc⟩ (Nat.lt_succ_self _) H locs ls hW (lv_sub hl [0, 1, 2, 3, 4, 5, 6, 7] rfl)
      ·
        omega
set_option maxRecDepth 100000 in
set_option maxHeartbeats 4000000 in
/-- product -/
theorem c_product (l : Launch) {D : va_G} {cI cJ cZ cP cS cM : ClassId} {L : List Nat} {sz : Nat} {f : Nat → va_E} (h0 h : Nat) (c : Nat → Int) (h1 ha : Nat) (a : Nat → Int) (h2 hb : Nat) (b : Nat → Int) (p : Int) (hf0 : f h0 = .inr (2, [.ref h])) (hf1 : f h = zA cI 25 c) (hg0 : f h1 = .inr (2, [.ref ha])) (hg1 : f ha = zA cI 25 a) (hk0 : f h2 = .inr (2, [.ref hb])) (hk1 : f hb = zA cI 25 b) (hna : h ≠ ha) (hnb : h ≠ hb) (hca : zcan 31 a) (hcb : zcan 31 b) (hp : 2 ≤ p ∧ p ≤ 31) : zMv l yX2_product wsX2_product 1 30 D (zT cI cJ cZ cP cS cM) L sz f [.ref h0, .ref h1, .ref h2, .int (zI p)] (fun g => g = va_up f h (zA cI 25 (zprod a b p))) := by
  refine zWalk.met (nL := 6) (ret := none) (cc := cX2_product) (by decide) rfl (Nat.le_of_ble_eq_true rfl) ?_
  intro pg en st mi ag bl mt cd ls CX hW hl
  have CX : zC pg st mi ag mt cd cX2_product 6 none RX2 wsX2_product := CX
  generalize hQ : MQ bl _ ag st 0 0 _ = Q
  have hX0 := CX.1
  have hB0 := CX.2.1
  have hl : lv_has ls 6 [(0, .ref h0), (1, .ref h1), (2, .ref h2), (3, .int (zI p))] := hl
  obtain ⟨H, eH⟩ : ∃ H, H = st.heap := ⟨_, rfl⟩
  obtain ⟨locs, eL⟩ : ∃ L : List Loc, L = [] := ⟨_, rfl⟩
  have hW : zW D (zT cI cJ cZ cP cS cM) L (zQ L sz) st f st.heap H locs := by rw [eH, eL]; exact hW
  suffices hgo : W pg l en ({ frames := 1, cells := 0, slots := 0, locals := 30 } : Room) st mi ag bl mt cd H locs 0 0 Q (F0 mi 0 ls []) by rw [eH, eL] at hgo; exact hgo
  clear eH eL
  refine lv_aload_n hX0 hB0 dX2_product_0 rfl (lv_at hl 0 rfl) ?_
  refine lv_iconst (v := zI 0) hX0 hB0 dX2_product_1 rfl ?_
  refine z_callv hW (va_runV (C := RX2) (As := [.int (zI 0)]) (rest := []) CX.fix (c_setTo l (f := f) h0 h c 0 hf0 hf1) (cwV 1 CX.fix.2.2.2.2 gX2_product_X2_setTo rfl rfl rfl (by decide +kernel) ⟨Nat.le_of_ble_eq_true rfl, Nat.le_of_ble_eq_true rfl⟩) (z_preV CX hW (r := (RX2, TX2, 1)) hf0 rfl) rfl rfl hl.1 rfl (lv_room (Nat.le_of_ble_eq_true rfl)) dX2_product_2 ⟨Nat.zero_le _, Nat.zero_le _⟩) (fun gn H locs hok2 hW => ?_)
  have eg : gn = va_up f h (zA cI 25 (zone 0)) := hok2
  rw [eg] at hW
  clear eg
  refine lv_iconst (v := zI 0) hX0 hB0 dX2_product_5 rfl ?_
  refine lv_istore (lv' := [(4, .int (zI 0)), (0, .ref h0), (1, .ref h1), (2, .ref h2), (3, .int (zI p))]) hX0 hB0 dX2_product_6 hl (by decide) rfl (fun ls hl => ?_)
  have hL8 : ∀ (fu : Nat) (i : Int) (co : Nat → Int), (0 ≤ i ∧ i ≤ 5 ∧ co = zfor (zprod_out a b p) 0 (zone 0) (i - 0).toNat ∧ zcan 31 co) → (6 - i).toNat < fu → ∀ (H : Heap) (locs : List Loc) (ls : Array Slot), zW D (zT cI cJ cZ cP cS cM) L (zQ L sz) st (va_up f h (zA cI 25 co)) st.heap H locs → lv_has ls 6 [(4, .int (zI i)), (0, .ref h0), (1, .ref h1), (2, .ref h2), (3, .int (zI p))] → W pg l en ({ frames := 1, cells := 0, slots := 0, locals := 30 } : Room) st mi ag bl mt cd H locs 0 0 Q (F0 mi 8 ls []) := by
    intro fu
    induction fu with
    | zero => intro i co _ hfu; exact absurd hfu (Nat.not_lt_zero _)
    | succ fu ih8 =>
      intro i co hinv8 hfu8 H locs ls hW hl
      obtain ⟨hi0, hi1, heo, hco⟩ := hinv8
      refine lv_iload hX0 hB0 dX2_product_8 (lv_at hl 0 rfl) ?_
      refine lv_iconst (v := zI 4) hX0 hB0 dX2_product_10 rfl ?_
      refine z_icmp_gt (tgt := 75) CX dX2_product_11 (by decide) (by constructor <;> omega) (by constructor <;> omega) (fun c_11 => ?_) (fun c_11 => ?_)
      ·
        rw [← hQ]
        exact z_vret CX hW (by rw [zprod_eq, heo]; congr 4; omega) dX2_product_75
      ·
        refine lv_iconst (v := zI 0) hX0 hB0 dX2_product_14 rfl ?_
        refine lv_istore (lv' := [(5, .int (zI 0)), (4, .int (zI i)), (0, .ref h0), (1, .ref h1), (2, .ref h2), (3, .int (zI p))]) hX0 hB0 dX2_product_15 hl (by decide) rfl (fun ls hl => ?_)
        have hL17 : ∀ (fu : Nat) (j : Int) (cc : Nat → Int), (0 ≤ j ∧ j ≤ 4 - i + 1 ∧ cc = zfor (zprod_in a b p i) 0 co (j - 0).toNat ∧ zcan 31 cc) → (6 - j).toNat < fu → ∀ (H : Heap) (locs : List Loc) (ls : Array Slot), zW D (zT cI cJ cZ cP cS cM) L (zQ L sz) st (va_up f h (zA cI 25 cc)) st.heap H locs → lv_has ls 6 [(5, .int (zI j)), (4, .int (zI i)), (0, .ref h0), (1, .ref h1), (2, .ref h2), (3, .int (zI p))] → W pg l en ({ frames := 1, cells := 0, slots := 0, locals := 30 } : Room) st mi ag bl mt cd H locs 0 0 Q (F0 mi 17 ls []) := by
          intro fu
          induction fu with
          | zero => intro j cc _ hfu; exact absurd hfu (Nat.not_lt_zero _)
          | succ fu ih17 =>
            intro j cc hinv17 hfu17 H locs ls hW hl
            obtain ⟨hj0, hj1, hei, hcc⟩ := hinv17
            refine lv_iload hX0 hB0 dX2_product_17 (lv_at hl 0 rfl) ?_
            refine lv_iconst (v := zI 4) hX0 hB0 dX2_product_19 rfl ?_
            refine lv_iload hX0 hB0 dX2_product_20 (lv_at hl 1 rfl) ?_
            refine z_isub (z := 4 - i) CX dX2_product_22 rfl ?_
            refine z_icmp_gt (tgt := 69) CX dX2_product_23 (by decide) (by constructor <;> omega) (by constructor <;> omega) (fun c_23 => ?_) (fun c_23 => ?_)
            ·
              refine lv_iinc (v := zI (i + 1)) (lv' := [(4, .int (zI (i + 1))), (5, .int (zI j)), (0, .ref h0), (1, .ref h1), (2, .ref h2), (3, .int (zI p))]) hX0 hB0 dX2_product_69 hl (k := 1) rfl (zI_add _ _) (by decide) rfl (fun ls hl => ?_)
              refine lv_goto (tgt := 8) hX0 hB0 dX2_product_72 (by decide) ?_
              exact ih8 (i + 1) cc ⟨by omega, by omega, by rw [zfor_s _ _ _ hi0, ← heo, hei]; show zfor _ 0 co _ = zfor _ 0 co _; congr 1; omega, hcc⟩ (by omega) H locs ls hW (lv_sub hl [0, 2, 3, 4, 5] rfl)
            ·
              refine lv_aload_n hX0 hB0 dX2_product_26 rfl (lv_at hl 3 rfl) ?_
              refine z_get (Cn := RX2) (T := TX2) (N := 1) CX hW (v := .ref ha) ((va_up_ne _ _ (zne hg0 hf1 zoi)).trans hg0) rfl (fun w h => List.mem_cons_of_mem _ (List.mem_append_right _ h)) 0 (by decide) (List.mem_of_getElem? (i := 1) rfl) rfl rfl dX2_product_27 ?_
              refine lv_iload hX0 hB0 dX2_product_30 (lv_at hl 1 rfl) ?_
              refine lv_iconst (v := zI 5) hX0 hB0 dX2_product_32 rfl ?_
              refine z_imul (z := i * 5) CX dX2_product_33 rfl ?_
              refine lv_iload hX0 hB0 dX2_product_34 (lv_at hl 0 rfl) ?_
              refine z_iadd (z := (i * 5) + j) CX dX2_product_36 rfl ?_
              refine z_iald (z := a (((i * 5) + j).toNat)) CX hW ((va_up_ne _ _ (Ne.symm hna)).trans hg1) 0 rfl (by refine ⟨?_, ?_, ?_⟩ <;> omega) rfl dX2_product_37 ?_
              have hr1 := hca (((i * 5) + j).toNat)
              refine z_if_eq (tgt := 63) CX dX2_product_38 (by decide) (by constructor <;> omega) (fun c_38 => ?_) (fun c_38 => ?_)
              ·
                refine lv_iinc (v := zI (j + 1)) (lv' := [(5, .int (zI (j + 1))), (4, .int (zI i)), (0, .ref h0), (1, .ref h1), (2, .ref h2), (3, .int (zI p))]) hX0 hB0 dX2_product_63 hl (k := 0) rfl (zI_add _ _) (by decide) rfl (fun ls hl => ?_)
                refine lv_goto (tgt := 17) hX0 hB0 dX2_product_66 (by decide) ?_
                exact ih17 (j + 1) cc ⟨by omega, by omega, by rw [zfor_s _ _ _ hj0, ← hei]; first | exact (if_neg (fun h => h c_38)).symm | exact (if_pos c_38).symm, by first | exact hcc | exact zaddS_can (by omega) (by omega) hcc⟩ (by omega) H locs ls hW (lv_sub hl [0, 1, 2, 3, 4, 5] rfl)
              ·
                refine lv_aload_n hX0 hB0 dX2_product_41 rfl (lv_at hl 2 rfl) ?_
                refine lv_aload_n hX0 hB0 dX2_product_42 rfl (lv_at hl 4 rfl) ?_
                refine lv_iload hX0 hB0 dX2_product_43 (lv_at hl 1 rfl) ?_
                refine lv_iload hX0 hB0 dX2_product_45 (lv_at hl 0 rfl) ?_
                refine lv_aload_n hX0 hB0 dX2_product_47 rfl (lv_at hl 3 rfl) ?_
                refine z_get (Cn := RX2) (T := TX2) (N := 1) CX hW (v := .ref ha) ((va_up_ne _ _ (zne hg0 hf1 zoi)).trans hg0) rfl (fun w h => List.mem_cons_of_mem _ (List.mem_append_right _ h)) 0 (by decide) (List.mem_of_getElem? (i := 1) rfl) rfl rfl dX2_product_48 ?_
                refine lv_iload hX0 hB0 dX2_product_51 (lv_at hl 1 rfl) ?_
                refine lv_iconst (v := zI 5) hX0 hB0 dX2_product_53 rfl ?_
                refine z_imul (z := i * 5) CX dX2_product_54 rfl ?_
                refine lv_iload hX0 hB0 dX2_product_55 (lv_at hl 0 rfl) ?_
                refine z_iadd (z := (i * 5) + j) CX dX2_product_57 rfl ?_
                refine z_iald (z := a (((i * 5) + j).toNat)) CX hW ((va_up_ne _ _ (Ne.symm hna)).trans hg1) 0 rfl (by refine ⟨?_, ?_, ?_⟩ <;> omega) rfl dX2_product_58 ?_
                have hr2 := hca (((i * 5) + j).toNat)
                refine lv_iload_n hX0 hB0 dX2_product_59 rfl (lv_at hl 5 rfl) ?_
                refine z_callv hW (va_runV (C := RX2) (As := [.ref h2, .int (zI i), .int (zI j), .int (zI (a (((i * 5) + j).toNat))), .int (zI p)]) (rest := []) CX.fix (c_addShifted l (f := va_up f h (zA cI 25 cc)) h0 h cc h2 hb b i j (a (((i * 5) + j).toNat)) p ((va_up_ne _ _ (zne hf0 hf1 zoi)).trans hf0) (va_up_self _ _ _) ((va_up_ne _ _ (zne hk0 hf1 zoi)).trans hk0) ((va_up_ne _ _ (Ne.symm hnb)).trans hk1) hnb (by first | assumption | exact zcan_le (by assumption) (by omega)) (by first | assumption | exact zcan_le (by assumption) (by omega)) (by constructor <;> omega) (by constructor <;> omega) (by constructor <;> omega) (by constructor <;> omega)) (cwV 5 CX.fix.2.2.2.2 gX2_product_X2_addShifted rfl rfl rfl (by decide +kernel) ⟨Nat.le_of_ble_eq_true rfl, Nat.le_of_ble_eq_true rfl⟩) (z_preV CX hW (r := (RX2, TX2, 1)) ((va_up_ne _ _ (zne hf0 hf1 zoi)).trans hf0) rfl) rfl rfl hl.1 rfl (lv_room (Nat.le_of_ble_eq_true rfl)) dX2_product_60 ⟨Nat.zero_le _, Nat.zero_le _⟩) (fun gn H locs hok60 hW => ?_)
                have eg : gn = va_up f h (zA cI 25 (zaddS cc b i j (a (((i * 5) + j).toNat)) p)) := (hok60).trans va_up_up
                rw [eg] at hW
                clear eg
                refine lv_iinc (v := zI (j + 1)) (lv' := [(5, .int (zI (j + 1))), (4, .int (zI i)), (0, .ref h0), (1, .ref h1), (2, .ref h2), (3, .int (zI p))]) hX0 hB0 dX2_product_63 hl (k := 0) rfl (zI_add _ _) (by decide) rfl (fun ls hl => ?_)
                refine lv_goto (tgt := 17) hX0 hB0 dX2_product_66 (by decide) ?_
                exact ih17 (j + 1) (zaddS cc b i j (a (((i * 5) + j).toNat)) p) ⟨by omega, by omega, by rw [zfor_s _ _ _ hj0, ← hei]; first | exact (if_neg (fun h => h c_38)).symm | exact (if_pos c_38).symm, by first | exact hcc | exact zaddS_can (by omega) (by omega) hcc⟩ (by omega) H locs ls hW (lv_sub hl [0, 1, 2, 3, 4, 5] rfl)
        exact hL17 _ 0 co ⟨by omega, by omega, rfl, hco⟩ (Nat.lt_succ_self _) H locs ls hW (lv_sub hl [0, 1, 2, 3, 4, 5] rfl)
  exact hL8 _ 0 (zone 0) ⟨by omega, by omega, rfl, zone_can (by omega) (by omega)⟩ (Nat.lt_succ_self _) H locs ls hW (lv_sub hl [0, 1, 2, 3, 4] rfl)
end ZPo
