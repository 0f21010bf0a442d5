section ZSp
/-- a loop that goes down from b -/
def zforD {σ : Type} (step : Int → σ → σ) (b : Int) (s0 : σ) : Nat → σ
  | 0 => s0
  | k + 1 => step (b - k) (zforD step b s0 k)
theorem zforD_s {σ : Type} (step : Int → σ → σ) (b : Int) (s0 : σ) {i : Int} (h : i ≤ b) : zforD step b s0 (b - (i - 1)).toNat = step i (zforD step b s0 (b - i).toNat) := by
  have e : (b - (i - 1)).toNat = (b - i).toNat + 1 := by omega
  rw [e]
  show step (b - ((b - i).toNat : Int)) _ = _
  rw [show b - ((b - i).toNat : Int) = i by omega]
/-- how many points there are over the field of p -/
def zmany (p : Int) : Int := p * p + p + 1
theorem zmany_rng {p : Int} (hp : 2 ≤ p ∧ p ≤ 31) : 4 ≤ p * p ∧ p * p ≤ 961 ∧ 7 ≤ zmany p ∧ zmany p ≤ 993 ∧ zmany p = p * p + p + 1 := by
  have h1 : (2 : Int) * 2 ≤ p * p := Int.mul_le_mul hp.1 hp.1 (by omega) (by omega)
  have h2 := zmul_rng (a := p) (b := p) (A := 31) (B := 31) (by omega) (by omega)
  unfold zmany
  omega
/-- a point's number -/
def zpt (n p : Int) : Prop := 0 ≤ n ∧ n < zmany p
def zpx (n p : Int) : Int := if n < p * p then n / p else if n = p * p + p then 0 else 1
def zpy (n p : Int) : Int := if n < p * p then n % p else if n = p * p + p then 1 else n - p * p
def zpz (n p : Int) : Int := if n < p * p then 1 else 0
theorem zpx_rng {n p : Int} (hp : 2 ≤ p ∧ p ≤ 31) (h : zpt n p) : 0 ≤ zpx n p ∧ zpx n p < p := by
  have hm := zmany_rng hp
  obtain ⟨h0, h1⟩ := h
  unfold zpx
  split
  · rename_i h2
    exact ⟨Int.ediv_nonneg h0 (by omega), Int.ediv_lt_of_lt_mul (by omega) h2⟩
  · split <;> omega
theorem zpy_rng {n p : Int} (hp : 2 ≤ p ∧ p ≤ 31) (h : zpt n p) : 0 ≤ zpy n p ∧ zpy n p < p := by
  have hm := zmany_rng hp
  obtain ⟨h0, h1⟩ := h
  unfold zpy
  split
  · exact zmr n (by omega)
  · split <;> omega
theorem zpz_01 (n p : Int) : zpz n p = 0 ∨ zpz n p = 1 := by
  unfold zpz
  split <;> omega
set_option maxRecDepth 100000 in
set_option maxHeartbeats 4000000 in
/-- howMany -/
theorem c_howMany (l : Launch) {D : va_G} {cI cJ cZ cP cS cM : ClassId} {L : List Nat} {sz : Nat} {f : Nat → va_E} (p : Int)  : zMi l yX9_howMany wsX9_howMany 0 0 D (zT cI cJ cZ cP cS cM) L sz f [.int (zI p)] (fun z g => z = zmany p ∧ g = f) := by
  refine zWalk.met (nL := 1) (ret := (some .int)) (cc := cX9_howMany) (by decide) rfl (Nat.le_of_ble_eq_true rfl) ?_
  intro pg en st mi ag bl mt cd ls CX hW hl
  have CX : zC pg st mi ag mt cd cX9_howMany 1 (some .int) RX9 wsX9_howMany := CX
  generalize hQ : MQ bl _ ag st 0 0 _ = Q
  have hX0 := CX.1
  have hB0 := CX.2.1
  have hl : lv_has ls 1 [(0, .int (zI p))] := hl
  obtain ⟨H, eH⟩ : ∃ H, H = st.heap := ⟨_, rfl⟩
  obtain ⟨locs, eL⟩ : ∃ L : List Loc, L = [] := ⟨_, rfl⟩
  have hW : zW D (zT cI cJ cZ cP cS cM) L (zQ L sz) st f st.heap H locs := by rw [eH, eL]; exact hW
  suffices hgo : W pg l en ({ frames := 0, cells := 0, slots := 0, locals := 0 } : Room) st mi ag bl mt cd H locs 0 0 Q (F0 mi 0 ls []) by rw [eH, eL] at hgo; exact hgo
  clear eH eL
  refine lv_iload_n hX0 hB0 dX9_howMany_0 rfl (lv_at hl 0 rfl) ?_
  refine lv_iload_n hX0 hB0 dX9_howMany_1 rfl (lv_at hl 0 rfl) ?_
  refine z_imul (z := p * p) CX dX9_howMany_2 rfl ?_
  refine lv_iload_n hX0 hB0 dX9_howMany_3 rfl (lv_at hl 0 rfl) ?_
  refine z_iadd (z := (p * p) + p) CX dX9_howMany_4 rfl ?_
  refine lv_iconst (v := zI 1) hX0 hB0 dX9_howMany_5 rfl ?_
  refine z_iadd (z := ((p * p) + p) + 1) CX dX9_howMany_6 rfl ?_
  rw [← hQ]
  exact z_iret (z := ((p * p) + p) + 1) CX hW (by exact ⟨rfl, rfl⟩) rfl dX9_howMany_7
set_option maxRecDepth 100000 in
set_option maxHeartbeats 4000000 in
/-- isPoint -/
theorem c_isPoint (l : Launch) {D : va_G} {cI cJ cZ cP cS cM : ClassId} {L : List Nat} {sz : Nat} {f : Nat → va_E} (n p : Int) (hn : -2147483648 ≤ n ∧ n ≤ 2147483647) (hp : 2 ≤ p ∧ p ≤ 31) : zMi l yX9_isPoint wsX9_isPoint 1 20 D (zT cI cJ cZ cP cS cM) L sz f [.int (zI n), .int (zI p)] (fun z g => z = bI (zpt n p) ∧ g = f) := by
  refine zWalk.met (nL := 2) (ret := (some .boolean)) (cc := cX9_isPoint) (by decide) rfl (Nat.le_of_ble_eq_true rfl) ?_
  intro pg en st mi ag bl mt cd ls CX hW hl
  have CX : zC pg st mi ag mt cd cX9_isPoint 2 (some .boolean) RX9 wsX9_isPoint := CX
  generalize hQ : MQ bl _ ag st 0 0 _ = Q
  have hX0 := CX.1
  have hB0 := CX.2.1
  have hl : lv_has ls 2 [(0, .int (zI n)), (1, .int (zI p))] := hl
  obtain ⟨H, eH⟩ : ∃ H, H = st.heap := ⟨_, rfl⟩
  obtain ⟨locs, eL⟩ : ∃ L : List Loc, L = [] := ⟨_, rfl⟩
  have hW : zW D (zT cI cJ cZ cP cS cM) L (zQ L sz) st f st.heap H locs := by rw [eH, eL]; exact hW
  suffices hgo : W pg l en ({ frames := 1, cells := 0, slots := 0, locals := 20 } : Room) st mi ag bl mt cd H locs 0 0 Q (F0 mi 0 ls []) by rw [eH, eL] at hgo; exact hgo
  clear eH eL
  refine lv_iload_n hX0 hB0 dX9_isPoint_0 rfl (lv_at hl 0 rfl) ?_
  refine z_if_lt (tgt := 16) CX dX9_isPoint_1 (by decide) (by constructor <;> omega) (fun c_1 => ?_) (fun c_1 => ?_)
  ·
    refine lv_iconst (v := zI 0) hX0 hB0 dX9_isPoint_16 rfl ?_
    rw [← hQ]
    exact z_iret (z := 0) CX hW (by first | exact ⟨(bI_t (by unfold zpt; omega)).symm, rfl⟩ | exact ⟨(bI_f (by unfold zpt; omega)).symm, rfl⟩) rfl dX9_isPoint_17
  ·
    refine lv_iload_n hX0 hB0 dX9_isPoint_4 rfl (lv_at hl 0 rfl) ?_
    refine lv_iload_n hX0 hB0 dX9_isPoint_5 rfl (lv_at hl 1 rfl) ?_
    refine z_calli hW (va_runS (As := [.int (zI p)]) (rest := [.int (zI n)]) CX.fix (c_howMany l (f := f) p) (va_cwS 1 CX.fix.2.2.2.2 gX9_isPoint_X9_howMany rfl rfl rfl (by decide +kernel) ⟨Nat.le_of_ble_eq_true rfl, Nat.le_of_ble_eq_true rfl⟩) (z_preS CX hW) rfl rfl hl.1 rfl (lv_room (Nat.le_of_ble_eq_true rfl)) dX9_isPoint_6 ⟨Nat.zero_le _, Nat.zero_le _⟩) (fun zv gn H locs hok6 hW => ?_)
    obtain ⟨ez, eg⟩ := hok6
    have eg : gn = f := eg
    rw [eg] at hW
    clear eg
    have ez : zv = zmany p := ez
    rw [ez]
    clear ez
    have hmy6 := zmany_rng (p := p) (by omega)
    refine z_icmp_ge (tgt := 16) CX dX9_isPoint_9 (by decide) (by constructor <;> omega) (by constructor <;> omega) (fun c_9 => ?_) (fun c_9 => ?_)
    ·
      refine lv_iconst (v := zI 0) hX0 hB0 dX9_isPoint_16 rfl ?_
      rw [← hQ]
      exact z_iret (z := 0) CX hW (by first | exact ⟨(bI_t (by unfold zpt; omega)).symm, rfl⟩ | exact ⟨(bI_f (by unfold zpt; omega)).symm, rfl⟩) rfl dX9_isPoint_17
    ·
      refine lv_iconst (v := zI 1) hX0 hB0 dX9_isPoint_12 rfl ?_
      refine lv_goto (tgt := 17) hX0 hB0 dX9_isPoint_13 (by decide) ?_
      rw [← hQ]
      exact z_iret (z := 1) CX hW (by first | exact ⟨(bI_t (by unfold zpt; omega)).symm, rfl⟩ | exact ⟨(bI_f (by unfold zpt; omega)).symm, rfl⟩) rfl dX9_isPoint_17
noncomputable def zgo (n p o v : Int) : Int := @ite _ (zpt n p) (Classical.propDecidable _) v o
theorem zgo_t {n p o v : Int} (h : zpt n p) : zgo n p o v = v := by unfold zgo; rw [if_pos h]
theorem zgo_f {n p o v : Int} (h : ¬ zpt n p) : zgo n p o v = o := by unfold zgo; rw [if_neg h]
set_option maxRecDepth 100000 in
set_option maxHeartbeats 4000000 in
/-- go -/
theorem c_go (l : Launch) {D : va_G} {cI cJ cZ cP cS cM : ClassId} {L : List Nat} {sz : Nat} {f : Nat → va_E} (h0 : Nat) (x y z n p : Int) (hf0 : f h0 = .inr (9, [.int (zI x), .int (zI y), .int (zI z)])) (hn : -2147483648 ≤ n ∧ n ≤ 2147483647) (hp : 2 ≤ p ∧ p ≤ 31) : zMi l yX9_go wsX9_go 2 41 D (zT cI cJ cZ cP cS cM) L sz f [.ref h0, .int (zI n), .int (zI p)] (fun r g => r = bI (zpt n p) ∧ g = va_up f h0 (.inr (9, [.int (zI (zgo n p x (zpx n p))), .int (zI (zgo n p y (zpy n p))), .int (zI (zgo n p z (zpz n p)))]))) := by
  refine zWalk.met (nL := 4) (ret := (some .boolean)) (cc := cX9_go) (by decide) rfl (Nat.le_of_ble_eq_true rfl) ?_
  intro pg en st mi ag bl mt cd ls CX hW hl
  have CX : zC pg st mi ag mt cd cX9_go 4 (some .boolean) RX9 wsX9_go := CX
  generalize hQ : MQ bl _ ag st 0 0 _ = Q
  have hX0 := CX.1
  have hB0 := CX.2.1
  have hl : lv_has ls 4 [(0, .ref h0), (1, .int (zI n)), (2, .int (zI p))] := hl
  obtain ⟨H, eH⟩ : ∃ H, H = st.heap := ⟨_, rfl⟩
  obtain ⟨locs, eL⟩ : ∃ L : List Loc, L = [] := ⟨_, rfl⟩
  have hW : zW D (zT cI cJ cZ cP cS cM) L (zQ L sz) st f st.heap H locs := by rw [eH, eL]; exact hW
  suffices hgo : W pg l en ({ frames := 2, cells := 0, slots := 0, locals := 41 } : Room) st mi ag bl mt cd H locs 0 0 Q (F0 mi 0 ls []) by rw [eH, eL] at hgo; exact hgo
  clear eH eL
  have hmy := zmany_rng hp
  refine lv_iload_n hX0 hB0 dX9_go_0 rfl (lv_at hl 2 rfl) ?_
  refine lv_iconst (v := zI 2) hX0 hB0 dX9_go_1 rfl ?_
  refine z_icmp_lt (tgt := 13) CX dX9_go_2 (by decide) (by constructor <;> omega) (by constructor <;> omega) (fun c_2 => ?_) (fun c_2 => ?_)
  ·
    omega
  ·
    refine lv_iload_n hX0 hB0 dX9_go_5 rfl (lv_at hl 1 rfl) ?_
    refine lv_iload_n hX0 hB0 dX9_go_6 rfl (lv_at hl 2 rfl) ?_
    refine z_calli hW (va_runS (As := [.int (zI n), .int (zI p)]) (rest := []) CX.fix (c_isPoint l (f := f) n p (by constructor <;> omega) (by constructor <;> omega)) (va_cwS 2 CX.fix.2.2.2.2 gX9_go_X9_isPoint rfl rfl rfl (by decide +kernel) ⟨Nat.le_of_ble_eq_true rfl, Nat.le_of_ble_eq_true rfl⟩) (z_preS CX hW) rfl rfl hl.1 rfl (lv_room (Nat.le_of_ble_eq_true rfl)) dX9_go_7 ⟨Nat.zero_le _, Nat.zero_le _⟩) (fun zv gn H locs hok7 hW => ?_)
    obtain ⟨ez, eg⟩ := hok7
    have eg : gn = f := eg
    rw [eg] at hW
    clear eg
    have ez : zv = bI (zpt n p) := ez
    rw [ez]
    clear ez
    have hb7 := bI_01 (zpt n p)
    refine z_if_ne (tgt := 15) CX dX9_go_10 (by decide) (by constructor <;> omega) (fun c_10 => ?_) (fun c_10 => ?_)
    ·
      have hy := bI_1 c_10
      have hy2 := hy
      unfold zpt at hy2
      refine lv_iload_n hX0 hB0 dX9_go_15 rfl (lv_at hl 1 rfl) ?_
      refine lv_iload_n hX0 hB0 dX9_go_16 rfl (lv_at hl 2 rfl) ?_
      refine lv_iload_n hX0 hB0 dX9_go_17 rfl (lv_at hl 2 rfl) ?_
      refine z_imul (z := p * p) CX dX9_go_18 rfl ?_
      refine z_icmp_ge (tgt := 44) CX dX9_go_19 (by decide) (by constructor <;> omega) (by constructor <;> omega) (fun c_19 => ?_) (fun c_19 => ?_)
      ·
        refine lv_iload_n hX0 hB0 dX9_go_44 rfl (lv_at hl 1 rfl) ?_
        refine lv_iload_n hX0 hB0 dX9_go_45 rfl (lv_at hl 2 rfl) ?_
        refine lv_iload_n hX0 hB0 dX9_go_46 rfl (lv_at hl 2 rfl) ?_
        refine z_imul (z := p * p) CX dX9_go_47 rfl ?_
        refine lv_iload_n hX0 hB0 dX9_go_48 rfl (lv_at hl 2 rfl) ?_
        refine z_iadd (z := (p * p) + p) CX dX9_go_49 rfl ?_
        refine z_icmp_ne (tgt := 57) CX dX9_go_50 (by decide) (by constructor <;> omega) (by constructor <;> omega) (fun c_50 => ?_) (fun c_50 => ?_)
        ·
          refine lv_iconst (v := zI 0) hX0 hB0 dX9_go_57 rfl ?_
          refine lv_istore_n (lv' := [(3, .int (zI 0)), (0, .ref h0), (1, .int (zI n)), (2, .int (zI p))]) hX0 hB0 dX9_go_58 rfl hl (by decide) rfl (fun ls hl => ?_)
          refine lv_aload_n hX0 hB0 dX9_go_59 rfl (lv_at hl 1 rfl) ?_
          refine lv_iload_n hX0 hB0 dX9_go_60 rfl (lv_at hl 0 rfl) ?_
          refine z_if_eq (tgt := 68) CX dX9_go_61 (by decide) (by constructor <;> omega) (fun c_61 => ?_) (fun c_61 => ?_)
          ·
            refine lv_iconst (v := zI 1) hX0 hB0 dX9_go_68 rfl ?_
            refine z_put (Cn := RX9) (T := TX9) (N := 3) CX hW (v := .int (zI 1)) hf0 rfl (fun w h => List.mem_cons_of_mem _ (List.mem_append_right _ h)) tyX9 tyX9_ok nmX9 0 (by decide) (List.mem_of_getElem? (i := 1) rfl) rfl rfl rfl rfl (Nat.le_of_ble_eq_true rfl) (g := va_up f h0 (.inr (9, [.int (zI 1), .int (zI y), .int (zI z)]))) rfl dX9_go_69 (fun H locs hW => ?_)
            refine lv_aload_n hX0 hB0 dX9_go_72 rfl (lv_at hl 1 rfl) ?_
            refine lv_iload_n hX0 hB0 dX9_go_73 rfl (lv_at hl 0 rfl) ?_
            refine z_if_eq (tgt := 81) CX dX9_go_74 (by decide) (by constructor <;> omega) (fun c_74 => ?_) (fun c_74 => ?_)
            ·
              refine lv_iload_n hX0 hB0 dX9_go_81 rfl (lv_at hl 2 rfl) ?_
              refine lv_iload_n hX0 hB0 dX9_go_82 rfl (lv_at hl 3 rfl) ?_
              refine lv_iload_n hX0 hB0 dX9_go_83 rfl (lv_at hl 3 rfl) ?_
              refine z_imul (z := p * p) CX dX9_go_84 rfl ?_
              refine z_isub (z := n - (p * p)) CX dX9_go_85 rfl ?_
              refine z_put (Cn := RX9) (T := TX9) (N := 3) CX hW (v := .int (zI (n - (p * p)))) (va_up_self _ _ _) rfl (fun w h => List.mem_cons_of_mem _ (List.mem_append_right _ h)) tyX9 tyX9_ok nmX9 1 (by decide) (List.mem_of_getElem? (i := 2) rfl) rfl rfl rfl rfl (Nat.le_of_ble_eq_true rfl) (g := va_up f h0 (.inr (9, [.int (zI 1), .int (zI (n - (p * p))), .int (zI z)]))) va_up_up dX9_go_86 (fun H locs hW => ?_)
              refine lv_aload_n hX0 hB0 dX9_go_89 rfl (lv_at hl 1 rfl) ?_
              refine lv_iconst (v := zI 0) hX0 hB0 dX9_go_90 rfl ?_
              refine z_put (Cn := RX9) (T := TX9) (N := 3) CX hW (v := .int (zI 0)) (va_up_self _ _ _) rfl (fun w h => List.mem_cons_of_mem _ (List.mem_append_right _ h)) tyX9 tyX9_ok nmX9 2 (by decide) (List.mem_of_getElem? (i := 3) rfl) rfl rfl rfl rfl (Nat.le_of_ble_eq_true rfl) (g := va_up f h0 (.inr (9, [.int (zI 1), .int (zI (n - (p * p))), .int (zI 0)]))) va_up_up dX9_go_91 (fun H locs hW => ?_)
              refine lv_iconst (v := zI 1) hX0 hB0 dX9_go_94 rfl ?_
              rw [← hQ]
              exact z_iret (z := 1) CX hW (by exact ⟨(bI_t hy).symm, by rw [zgo_t hy, zgo_t hy, zgo_t hy]; unfold zpx zpy zpz; first | rw [if_pos c_19, if_pos c_19, if_pos c_19] | rw [if_neg (Int.not_lt.mpr c_19), if_neg (Int.not_lt.mpr c_19), if_neg (Int.not_lt.mpr c_19), if_pos c_50, if_pos c_50] | rw [if_neg (Int.not_lt.mpr c_19), if_neg (Int.not_lt.mpr c_19), if_neg (Int.not_lt.mpr c_19), if_neg c_50, if_neg c_50]⟩) rfl dX9_go_95
            ·
              omega
          ·
            omega
        ·
          refine lv_iconst (v := zI 1) hX0 hB0 dX9_go_53 rfl ?_
          refine lv_goto (tgt := 58) hX0 hB0 dX9_go_54 (by decide) ?_
          refine lv_istore_n (lv' := [(3, .int (zI 1)), (0, .ref h0), (1, .int (zI n)), (2, .int (zI p))]) hX0 hB0 dX9_go_58 rfl hl (by decide) rfl (fun ls hl => ?_)
          refine lv_aload_n hX0 hB0 dX9_go_59 rfl (lv_at hl 1 rfl) ?_
          refine lv_iload_n hX0 hB0 dX9_go_60 rfl (lv_at hl 0 rfl) ?_
          refine z_if_eq (tgt := 68) CX dX9_go_61 (by decide) (by constructor <;> omega) (fun c_61 => ?_) (fun c_61 => ?_)
          ·
            omega
          ·
            refine lv_iconst (v := zI 0) hX0 hB0 dX9_go_64 rfl ?_
            refine lv_goto (tgt := 69) hX0 hB0 dX9_go_65 (by decide) ?_
            refine z_put (Cn := RX9) (T := TX9) (N := 3) CX hW (v := .int (zI 0)) hf0 rfl (fun w h => List.mem_cons_of_mem _ (List.mem_append_right _ h)) tyX9 tyX9_ok nmX9 0 (by decide) (List.mem_of_getElem? (i := 1) rfl) rfl rfl rfl rfl (Nat.le_of_ble_eq_true rfl) (g := va_up f h0 (.inr (9, [.int (zI 0), .int (zI y), .int (zI z)]))) rfl dX9_go_69 (fun H locs hW => ?_)
            refine lv_aload_n hX0 hB0 dX9_go_72 rfl (lv_at hl 1 rfl) ?_
            refine lv_iload_n hX0 hB0 dX9_go_73 rfl (lv_at hl 0 rfl) ?_
            refine z_if_eq (tgt := 81) CX dX9_go_74 (by decide) (by constructor <;> omega) (fun c_74 => ?_) (fun c_74 => ?_)
            ·
              omega
            ·
              refine lv_iconst (v := zI 1) hX0 hB0 dX9_go_77 rfl ?_
              refine lv_goto (tgt := 86) hX0 hB0 dX9_go_78 (by decide) ?_
              refine z_put (Cn := RX9) (T := TX9) (N := 3) CX hW (v := .int (zI 1)) (va_up_self _ _ _) rfl (fun w h => List.mem_cons_of_mem _ (List.mem_append_right _ h)) tyX9 tyX9_ok nmX9 1 (by decide) (List.mem_of_getElem? (i := 2) rfl) rfl rfl rfl rfl (Nat.le_of_ble_eq_true rfl) (g := va_up f h0 (.inr (9, [.int (zI 0), .int (zI 1), .int (zI z)]))) va_up_up dX9_go_86 (fun H locs hW => ?_)
              refine lv_aload_n hX0 hB0 dX9_go_89 rfl (lv_at hl 1 rfl) ?_
              refine lv_iconst (v := zI 0) hX0 hB0 dX9_go_90 rfl ?_
              refine z_put (Cn := RX9) (T := TX9) (N := 3) CX hW (v := .int (zI 0)) (va_up_self _ _ _) rfl (fun w h => List.mem_cons_of_mem _ (List.mem_append_right _ h)) tyX9 tyX9_ok nmX9 2 (by decide) (List.mem_of_getElem? (i := 3) rfl) rfl rfl rfl rfl (Nat.le_of_ble_eq_true rfl) (g := va_up f h0 (.inr (9, [.int (zI 0), .int (zI 1), .int (zI 0)]))) va_up_up dX9_go_91 (fun H locs hW => ?_)
              refine lv_iconst (v := zI 1) hX0 hB0 dX9_go_94 rfl ?_
              rw [← hQ]
              exact z_iret (z := 1) CX hW (by exact ⟨(bI_t hy).symm, by rw [zgo_t hy, zgo_t hy, zgo_t hy]; unfold zpx zpy zpz; first | rw [if_pos c_19, if_pos c_19, if_pos c_19] | rw [if_neg (Int.not_lt.mpr c_19), if_neg (Int.not_lt.mpr c_19), if_neg (Int.not_lt.mpr c_19), if_pos c_50, if_pos c_50] | rw [if_neg (Int.not_lt.mpr c_19), if_neg (Int.not_lt.mpr c_19), if_neg (Int.not_lt.mpr c_19), if_neg c_50, if_neg c_50]⟩) rfl dX9_go_95
      ·
        refine lv_aload_n hX0 hB0 dX9_go_22 rfl (lv_at hl 0 rfl) ?_
        refine lv_iload_n hX0 hB0 dX9_go_23 rfl (lv_at hl 1 rfl) ?_
        refine lv_iload_n hX0 hB0 dX9_go_24 rfl (lv_at hl 2 rfl) ?_
        refine z_idiv (z := n / p) CX dX9_go_25 (by constructor <;> omega) (by constructor <;> omega) (Int.tdiv_eq_ediv_of_nonneg (by omega)) ?_
        refine z_put (Cn := RX9) (T := TX9) (N := 3) CX hW (v := .int (zI (n / p))) hf0 rfl (fun w h => List.mem_cons_of_mem _ (List.mem_append_right _ h)) tyX9 tyX9_ok nmX9 0 (by decide) (List.mem_of_getElem? (i := 1) rfl) rfl rfl rfl rfl (Nat.le_of_ble_eq_true rfl) (g := va_up f h0 (.inr (9, [.int (zI (n / p)), .int (zI y), .int (zI z)]))) rfl dX9_go_26 (fun H locs hW => ?_)
        refine lv_aload_n hX0 hB0 dX9_go_29 rfl (lv_at hl 0 rfl) ?_
        refine lv_iload_n hX0 hB0 dX9_go_30 rfl (lv_at hl 1 rfl) ?_
        refine lv_iload_n hX0 hB0 dX9_go_31 rfl (lv_at hl 2 rfl) ?_
        refine z_irem (z := n % p) CX dX9_go_32 (by constructor <;> omega) (by constructor <;> omega) (Int.tmod_eq_emod_of_nonneg (by omega)) ?_
        refine z_put (Cn := RX9) (T := TX9) (N := 3) CX hW (v := .int (zI (n % p))) (va_up_self _ _ _) rfl (fun w h => List.mem_cons_of_mem _ (List.mem_append_right _ h)) tyX9 tyX9_ok nmX9 1 (by decide) (List.mem_of_getElem? (i := 2) rfl) rfl rfl rfl rfl (Nat.le_of_ble_eq_true rfl) (g := va_up f h0 (.inr (9, [.int (zI (n / p)), .int (zI (n % p)), .int (zI z)]))) va_up_up dX9_go_33 (fun H locs hW => ?_)
        refine lv_aload_n hX0 hB0 dX9_go_36 rfl (lv_at hl 0 rfl) ?_
        refine lv_iconst (v := zI 1) hX0 hB0 dX9_go_37 rfl ?_
        refine z_put (Cn := RX9) (T := TX9) (N := 3) CX hW (v := .int (zI 1)) (va_up_self _ _ _) rfl (fun w h => List.mem_cons_of_mem _ (List.mem_append_right _ h)) tyX9 tyX9_ok nmX9 2 (by decide) (List.mem_of_getElem? (i := 3) rfl) rfl rfl rfl rfl (Nat.le_of_ble_eq_true rfl) (g := va_up f h0 (.inr (9, [.int (zI (n / p)), .int (zI (n % p)), .int (zI 1)]))) va_up_up dX9_go_38 (fun H locs hW => ?_)
        refine lv_goto (tgt := 94) hX0 hB0 dX9_go_41 (by decide) ?_
        refine lv_iconst (v := zI 1) hX0 hB0 dX9_go_94 rfl ?_
        rw [← hQ]
        exact z_iret (z := 1) CX hW (by exact ⟨(bI_t hy).symm, by rw [zgo_t hy, zgo_t hy, zgo_t hy]; unfold zpx zpy zpz; first | rw [if_pos c_19, if_pos c_19, if_pos c_19] | rw [if_neg (Int.not_lt.mpr c_19), if_neg (Int.not_lt.mpr c_19), if_neg (Int.not_lt.mpr c_19), if_pos c_50, if_pos c_50] | rw [if_neg (Int.not_lt.mpr c_19), if_neg (Int.not_lt.mpr c_19), if_neg (Int.not_lt.mpr c_19), if_neg c_50, if_neg c_50]⟩) rfl dX9_go_95
    ·
      have hn2 := bI_0 c_10
      refine lv_iconst (v := zI 0) hX0 hB0 dX9_go_13 rfl ?_
      rw [← hQ]
      exact z_iret (z := 0) CX hW (by exact ⟨(bI_f hn2).symm, by rw [zgo_f hn2, zgo_f hn2, zgo_f hn2]; exact (va_up_id hf0).symm⟩) rfl dX9_go_14
/-- what a form has at x : y : z, as it is reckoned -/
def zval_in (c : Nat → Int) (y z n p i : Int) : Int → Int → Int := fun j q => if z = 1 ∨ i + j = n then q * y % p + c (i * 5 + j).toNat else q * y % p
def zval_out (c : Nat → Int) (x y z n p : Int) : Int → Int → Int := fun i q => (q * x + zforD (zval_in c y z n p i) (4 - i) 0 (4 - i - (-1)).toNat) % p
def zval (c : Nat → Int) (x y z p : Int) : Int := zforD (zval_out c x y z (if z = 0 then ztop c else -1) p) 4 0 (4 - (-1) : Int).toNat
theorem zval_rng {c : Nat → Int} {x y z p : Int} (hp : 0 < p) : 0 ≤ zval c x y z p ∧ zval c x y z p < p := zmr _ hp
set_option maxRecDepth 100000 in
set_option maxHeartbeats 4000000 in
/-- valueOf -/
theorem c_valueOf (l : Launch) {D : va_G} {cI cJ cZ cP cS cM : ClassId} {L : List Nat} {sz : Nat} {f : Nat → va_E} (h0 : Nat) (x y z : Int) (h1 ha : Nat) (c : Nat → Int) (p : Int) (hf0 : f h0 = .inr (9, [.int (zI x), .int (zI y), .int (zI z)])) (hg0 : f h1 = .inr (2, [.ref ha])) (hg1 : f ha = zA cI 25 c) (hc : zcan 31 c) (hx9 : 0 ≤ x ∧ x < 31) (hy9 : 0 ≤ y ∧ y < 31) (hz9 : 0 ≤ z ∧ z ≤ 1) (hp : 2 ≤ p ∧ p ≤ 31) : zMi l yX9_valueOf wsX9_valueOf 2 44 D (zT cI cJ cZ cP cS cM) L sz f [.ref h0, .ref h1, .int (zI p)] (fun r g => r = zval c x y z p ∧ g = f) := by
  refine zWalk.met (nL := 8) (ret := (some .int)) (cc := cX9_valueOf) (by decide) rfl (Nat.le_of_ble_eq_true rfl) ?_
  intro pg en st mi ag bl mt cd ls CX hW hl
  have CX : zC pg st mi ag mt cd cX9_valueOf 8 (some .int) RX9 wsX9_valueOf := CX
  generalize hQ : MQ bl _ ag st 0 0 _ = Q
  have hX0 := CX.1
  have hB0 := CX.2.1
  have hl : lv_has ls 8 [(0, .ref h0), (1, .ref h1), (2, .int (zI p))] := hl
  obtain ⟨H, eH⟩ : ∃ H, H = st.heap := ⟨_, rfl⟩
  obtain ⟨locs, eL⟩ : ∃ L : List Loc, L = [] := ⟨_, rfl⟩
  have hW : zW D (zT cI cJ cZ cP cS cM) L (zQ L sz) st f st.heap H locs := by rw [eH, eL]; exact hW
  suffices hgo : W pg l en ({ frames := 2, cells := 0, slots := 0, locals := 44 } : Room) st mi ag bl mt cd H locs 0 0 Q (F0 mi 0 ls []) by rw [eH, eL] at hgo; exact hgo
  clear eH eL
  refine lv_iload_n hX0 hB0 dX9_valueOf_0 rfl (lv_at hl 2 rfl) ?_
  refine lv_iconst (v := zI 2) hX0 hB0 dX9_valueOf_1 rfl ?_
  refine z_icmp_ge (tgt := 7) CX dX9_valueOf_2 (by decide) (by constructor <;> omega) (by constructor <;> omega) (fun c_2 => ?_) (fun c_2 => ?_)
  ·
    have hJ22 : ∀ (n : Int), (n = (if z = 0 then ztop c else -1) ∧ -1 ≤ n ∧ n ≤ 8) → ∀ (H : Heap) (locs : List Loc) (ls : Array Slot), zW D (zT cI cJ cZ cP cS cM) L (zQ L sz) st f st.heap H locs → lv_has ls 8 [(0, .ref h0), (1, .ref h1), (2, .int (zI p))] → W pg l en ({ frames := 2, cells := 0, slots := 0, locals := 44 } : Room) st mi ag bl mt cd H locs 0 0 Q (F0 mi 22 ls [.int (zI n)]) := by
      intro n hinv22 H locs ls hW hl
      obtain ⟨hn, hn0, hn1⟩ := hinv22
      refine lv_istore_n (lv' := [(3, .int (zI n)), (0, .ref h0), (1, .ref h1), (2, .int (zI p))]) hX0 hB0 dX9_valueOf_22 rfl hl (by decide) rfl (fun ls hl => ?_)
      refine lv_iconst (v := zI 0) hX0 hB0 dX9_valueOf_23 rfl ?_
      refine lv_istore (lv' := [(4, .int (zI 0)), (3, .int (zI n)), (0, .ref h0), (1, .ref h1), (2, .int (zI p))]) hX0 hB0 dX9_valueOf_24 hl (by decide) rfl (fun ls hl => ?_)
      refine lv_iconst (v := zI 4) hX0 hB0 dX9_valueOf_26 rfl ?_
      refine lv_istore (lv' := [(5, .int (zI 4)), (4, .int (zI 0)), (3, .int (zI n)), (0, .ref h0), (1, .ref h1), (2, .int (zI p))]) hX0 hB0 dX9_valueOf_27 hl (by decide) rfl (fun ls hl => ?_)
      have hL29 : ∀ (fu : Nat) (i : Int) (q : Int), (-1 ≤ i ∧ i ≤ 4 ∧ q = zforD (zval_out c x y z n p) 4 0 (4 - i).toNat ∧ 0 ≤ q ∧ q < 31) → (i + 1).toNat < fu → ∀ (H : Heap) (locs : List Loc) (ls : Array Slot), zW D (zT cI cJ cZ cP cS cM) L (zQ L sz) st f st.heap H locs → lv_has ls 8 [(5, .int (zI i)), (4, .int (zI q)), (3, .int (zI n)), (0, .ref h0), (1, .ref h1), (2, .int (zI p))] → W pg l en ({ frames := 2, cells := 0, slots := 0, locals := 44 } : Room) st mi ag bl mt cd H locs 0 0 Q (F0 mi 29 ls []) := by
        intro fu
        induction fu with
        | zero => intro i q _ hfu; exact absurd hfu (Nat.not_lt_zero _)
        | succ fu ih29 =>
          intro i q hinv29 hfu29 H locs ls hW hl
          obtain ⟨hi0, hi1, hq, hq0, hq1⟩ := hinv29
          refine lv_iload hX0 hB0 dX9_valueOf_29 (lv_at hl 0 rfl) ?_
          refine z_if_lt (tgt := 119) CX dX9_valueOf_31 (by decide) (by constructor <;> omega) (fun c_31 => ?_) (fun c_31 => ?_)
          ·
            refine lv_iload hX0 hB0 dX9_valueOf_119 (lv_at hl 1 rfl) ?_
            rw [← hQ]
            exact z_iret (z := q) CX hW (by exact ⟨by rw [hq]; unfold zval; rw [hn, show i = -1 by omega], rfl⟩) rfl dX9_valueOf_121
          ·
            refine lv_iconst (v := zI 0) hX0 hB0 dX9_valueOf_34 rfl ?_
            refine lv_istore (lv' := [(6, .int (zI 0)), (5, .int (zI i)), (4, .int (zI q)), (3, .int (zI n)), (0, .ref h0), (1, .ref h1), (2, .int (zI p))]) hX0 hB0 dX9_valueOf_35 hl (by decide) rfl (fun ls hl => ?_)
            refine lv_iconst (v := zI 4) hX0 hB0 dX9_valueOf_37 rfl ?_
            refine lv_iload hX0 hB0 dX9_valueOf_38 (lv_at hl 1 rfl) ?_
            refine z_isub (z := 4 - i) CX dX9_valueOf_40 rfl ?_
            refine lv_istore (lv' := [(7, .int (zI (4 - i))), (6, .int (zI 0)), (5, .int (zI i)), (4, .int (zI q)), (3, .int (zI n)), (0, .ref h0), (1, .ref h1), (2, .int (zI p))]) hX0 hB0 dX9_valueOf_41 hl (by decide) rfl (fun ls hl => ?_)
            have hL43 : ∀ (fu : Nat) (j : Int) (w : Int), (-1 ≤ j ∧ j ≤ 4 - i ∧ w = zforD (zval_in c y z n p i) (4 - i) 0 (4 - i - j).toNat ∧ 0 ≤ w ∧ w < 70) → (j + 1).toNat < fu → ∀ (H : Heap) (locs : List Loc) (ls : Array Slot), zW D (zT cI cJ cZ cP cS cM) L (zQ L sz) st f st.heap H locs → lv_has ls 8 [(7, .int (zI j)), (6, .int (zI w)), (5, .int (zI i)), (4, .int (zI q)), (3, .int (zI n)), (0, .ref h0), (1, .ref h1), (2, .int (zI p))] → W pg l en ({ frames := 2, cells := 0, slots := 0, locals := 44 } : Room) st mi ag bl mt cd H locs 0 0 Q (F0 mi 43 ls []) := by
              intro fu
              induction fu with
              | zero => intro j w _ hfu; exact absurd hfu (Nat.not_lt_zero _)
              | succ fu ih43 =>
                intro j w hinv43 hfu43 H locs ls hW hl
                obtain ⟨hj0, hj1, hw, hw0, hw1⟩ := hinv43
                have hwy := zmul_rng (a := w) (b := y) (A := 70) (B := 31) (by omega) (by omega)
                have hwm := zmr (w * y) (p := p) (by omega)
                have hqx := zmul_rng (a := q) (b := x) (A := 31) (B := 31) (by omega) (by omega)
                have hqm := zmr (q * x + w) (p := p) (by omega)
                refine lv_iload hX0 hB0 dX9_valueOf_43 (lv_at hl 0 rfl) ?_
                refine z_if_lt (tgt := 99) CX dX9_valueOf_45 (by decide) (by constructor <;> omega) (fun c_45 => ?_) (fun c_45 => ?_)
                ·
                  refine lv_iload hX0 hB0 dX9_valueOf_99 (lv_at hl 3 rfl) ?_
                  refine lv_aload_n hX0 hB0 dX9_valueOf_101 rfl (lv_at hl 5 rfl) ?_
                  refine z_get (Cn := RX9) (T := TX9) (N := 3) CX hW (v := .int (zI x)) hf0 rfl (fun w h => List.mem_cons_of_mem _ (List.mem_append_left _ (List.mem_append_right _ h))) 0 (by decide) (List.mem_of_getElem? (i := 3) rfl) rfl rfl dX9_valueOf_102 ?_
                  refine z_imul (z := q * x) CX dX9_valueOf_105 rfl ?_
                  refine lv_iload hX0 hB0 dX9_valueOf_106 (lv_at hl 1 rfl) ?_
                  refine z_iadd (z := (q * x) + w) CX dX9_valueOf_108 rfl ?_
                  refine lv_iload_n hX0 hB0 dX9_valueOf_109 rfl (lv_at hl 7 rfl) ?_
                  refine z_irem (z := (q * x + w) % p) CX dX9_valueOf_110 (by constructor <;> omega) (by constructor <;> omega) (Int.tmod_eq_emod_of_nonneg (by omega)) ?_
                  refine lv_istore (lv' := [(4, .int (zI ((q * x + w) % p))), (7, .int (zI j)), (6, .int (zI w)), (5, .int (zI i)), (3, .int (zI n)), (0, .ref h0), (1, .ref h1), (2, .int (zI p))]) hX0 hB0 dX9_valueOf_111 hl (by decide) rfl (fun ls hl => ?_)
                  refine lv_iinc (v := zI (i + (-1))) (lv' := [(5, .int (zI (i + (-1)))), (4, .int (zI ((q * x + w) % p))), (7, .int (zI j)), (6, .int (zI w)), (3, .int (zI n)), (0, .ref h0), (1, .ref h1), (2, .int (zI p))]) hX0 hB0 dX9_valueOf_113 hl (k := 3) rfl (zI_add _ _) (by decide) rfl (fun ls hl => ?_)
                  refine lv_goto (tgt := 29) hX0 hB0 dX9_valueOf_116 (by decide) ?_
                  exact ih29 (i + (-1)) ((q * x + w) % p) ⟨by omega, by omega, by show _ = zforD _ 4 0 (4 - (i - 1)).toNat; rw [zforD_s _ _ _ hi1, ← hq]; unfold zval_out; rw [hw, show (j : Int) = -1 by omega], by omega, by omega⟩ (by omega) H locs ls hW (lv_sub hl [0, 1, 4, 5, 6, 7] rfl)
                ·
                  refine lv_iload hX0 hB0 dX9_valueOf_48 (lv_at hl 1 rfl) ?_
                  refine lv_aload_n hX0 hB0 dX9_valueOf_50 rfl (lv_at hl 5 rfl) ?_
                  refine z_get (Cn := RX9) (T := TX9) (N := 3) CX hW (v := .int (zI y)) hf0 rfl (fun w h => List.mem_cons_of_mem _ (List.mem_append_left _ (List.mem_append_right _ h))) 1 (by decide) (List.mem_of_getElem? (i := 2) rfl) rfl rfl dX9_valueOf_51 ?_
                  refine z_imul (z := w * y) CX dX9_valueOf_54 rfl ?_
                  refine lv_iload_n hX0 hB0 dX9_valueOf_55 rfl (lv_at hl 7 rfl) ?_
                  refine z_irem (z := w * y % p) CX dX9_valueOf_56 (by constructor <;> omega) (by constructor <;> omega) (Int.tmod_eq_emod_of_nonneg hwy.1) ?_
                  refine lv_istore (lv' := [(6, .int (zI (w * y % p))), (7, .int (zI j)), (5, .int (zI i)), (4, .int (zI q)), (3, .int (zI n)), (0, .ref h0), (1, .ref h1), (2, .int (zI p))]) hX0 hB0 dX9_valueOf_57 hl (by decide) rfl (fun ls hl => ?_)
                  refine lv_aload_n hX0 hB0 dX9_valueOf_59 rfl (lv_at hl 5 rfl) ?_
                  refine z_get (Cn := RX9) (T := TX9) (N := 3) CX hW (v := .int (zI z)) hf0 rfl (fun w h => List.mem_cons_of_mem _ (List.mem_append_left _ (List.mem_append_right _ h))) 2 (by decide) (List.mem_of_getElem? (i := 1) rfl) rfl rfl dX9_valueOf_60 ?_
                  refine lv_iconst (v := zI 1) hX0 hB0 dX9_valueOf_63 rfl ?_
                  refine z_icmp_eq (tgt := 76) CX dX9_valueOf_64 (by decide) (by constructor <;> omega) (by constructor <;> omega) (fun c_64 => ?_) (fun c_64 => ?_)
                  ·
                    refine lv_iload hX0 hB0 dX9_valueOf_76 (lv_at hl 0 rfl) ?_
                    refine lv_aload_n hX0 hB0 dX9_valueOf_78 rfl (lv_at hl 6 rfl) ?_
                    refine z_getN (host := "CurveMeets") (Cn := RX2) (T := TX2) (N := 1) CX hW (v := .ref ha) hg0 rfl (fun w h => List.mem_cons_of_mem _ (List.mem_append_right _ h)) 0 (by decide) (by decide +kernel) rfl rfl dX9_valueOf_79 ?_
                    refine lv_iload hX0 hB0 dX9_valueOf_82 (lv_at hl 2 rfl) ?_
                    refine lv_iconst (v := zI 5) hX0 hB0 dX9_valueOf_84 rfl ?_
                    refine z_imul (z := i * 5) CX dX9_valueOf_85 rfl ?_
                    refine lv_iload hX0 hB0 dX9_valueOf_86 (lv_at hl 1 rfl) ?_
                    refine z_iadd (z := (i * 5) + j) CX dX9_valueOf_88 rfl ?_
                    refine z_iald (z := c (((i * 5) + j).toNat)) CX hW hg1 0 rfl (by refine ⟨?_, ?_, ?_⟩ <;> omega) rfl dX9_valueOf_89 ?_
                    have hr1 := hc (((i * 5) + j).toNat)
                    refine z_iadd (z := (w * y % p) + (c (((i * 5) + j).toNat))) CX dX9_valueOf_90 rfl ?_
                    refine lv_istore (lv' := [(6, .int (zI ((w * y % p) + (c (((i * 5) + j).toNat))))), (7, .int (zI j)), (5, .int (zI i)), (4, .int (zI q)), (3, .int (zI n)), (0, .ref h0), (1, .ref h1), (2, .int (zI p))]) hX0 hB0 dX9_valueOf_91 hl (by decide) rfl (fun ls hl => ?_)
                    refine lv_iinc (v := zI (j + (-1))) (lv' := [(7, .int (zI (j + (-1)))), (6, .int (zI ((w * y % p) + (c (((i * 5) + j).toNat))))), (5, .int (zI i)), (4, .int (zI q)), (3, .int (zI n)), (0, .ref h0), (1, .ref h1), (2, .int (zI p))]) hX0 hB0 dX9_valueOf_93 hl (k := 1) rfl (zI_add _ _) (by decide) rfl (fun ls hl => ?_)
                    refine lv_goto (tgt := 43) hX0 hB0 dX9_valueOf_96 (by decide) ?_
                    exact ih43 (j + (-1)) ((w * y % p) + (c (((i * 5) + j).toNat))) ⟨by omega, by omega, by show _ = zforD _ (4 - i) 0 (4 - i - (j - 1)).toNat; rw [zforD_s _ _ _ hj1, ← hw]; first | exact (if_pos (Or.inl c_64)).symm | exact (if_pos (Or.inr c_73)).symm | exact (if_neg (by omega)).symm, by omega, by omega⟩ (by omega) H locs ls hW (lv_sub hl [0, 1, 2, 3, 4, 5, 6, 7] rfl)
                  ·
                    refine lv_iload hX0 hB0 dX9_valueOf_67 (lv_at hl 2 rfl) ?_
                    refine lv_iload hX0 hB0 dX9_valueOf_69 (lv_at hl 1 rfl) ?_
                    refine z_iadd (z := i + j) CX dX9_valueOf_71 rfl ?_
                    refine lv_iload_n hX0 hB0 dX9_valueOf_72 rfl (lv_at hl 4 rfl) ?_
                    refine z_icmp_ne (tgt := 93) CX dX9_valueOf_73 (by decide) (by constructor <;> omega) (by constructor <;> omega) (fun c_73 => ?_) (fun c_73 => ?_)
                    ·
                      refine lv_iinc (v := zI (j + (-1))) (lv' := [(7, .int (zI (j + (-1)))), (6, .int (zI (w * y % p))), (5, .int (zI i)), (4, .int (zI q)), (3, .int (zI n)), (0, .ref h0), (1, .ref h1), (2, .int (zI p))]) hX0 hB0 dX9_valueOf_93 hl (k := 1) rfl (zI_add _ _) (by decide) rfl (fun ls hl => ?_)
                      refine lv_goto (tgt := 43) hX0 hB0 dX9_valueOf_96 (by decide) ?_
                      exact ih43 (j + (-1)) (w * y % p) ⟨by omega, by omega, by show _ = zforD _ (4 - i) 0 (4 - i - (j - 1)).toNat; rw [zforD_s _ _ _ hj1, ← hw]; first | exact (if_pos (Or.inl c_64)).symm | exact (if_pos (Or.inr c_73)).symm | exact (if_neg (by omega)).symm, by omega, by omega⟩ (by omega) H locs ls hW (lv_sub hl [0, 1, 2, 3, 4, 5, 6, 7] rfl)
                    ·
                      refine lv_iload hX0 hB0 dX9_valueOf_76 (lv_at hl 0 rfl) ?_
                      refine lv_aload_n hX0 hB0 dX9_valueOf_78 rfl (lv_at hl 6 rfl) ?_
                      refine z_getN (host := "CurveMeets") (Cn := RX2) (T := TX2) (N := 1) CX hW (v := .ref ha) hg0 rfl (fun w h => List.mem_cons_of_mem _ (List.mem_append_right _ h)) 0 (by decide) (by decide +kernel) rfl rfl dX9_valueOf_79 ?_
                      refine lv_iload hX0 hB0 dX9_valueOf_82 (lv_at hl 2 rfl) ?_
                      refine lv_iconst (v := zI 5) hX0 hB0 dX9_valueOf_84 rfl ?_
                      refine z_imul (z := i * 5) CX dX9_valueOf_85 rfl ?_
                      refine lv_iload hX0 hB0 dX9_valueOf_86 (lv_at hl 1 rfl) ?_
                      refine z_iadd (z := (i * 5) + j) CX dX9_valueOf_88 rfl ?_
                      refine z_iald (z := c (((i * 5) + j).toNat)) CX hW hg1 0 rfl (by refine ⟨?_, ?_, ?_⟩ <;> omega) rfl dX9_valueOf_89 ?_
                      have hr2 := hc (((i * 5) + j).toNat)
                      refine z_iadd (z := (w * y % p) + (c (((i * 5) + j).toNat))) CX dX9_valueOf_90 rfl ?_
                      refine lv_istore (lv' := [(6, .int (zI ((w * y % p) + (c (((i * 5) + j).toNat))))), (7, .int (zI j)), (5, .int (zI i)), (4, .int (zI q)), (3, .int (zI n)), (0, .ref h0), (1, .ref h1), (2, .int (zI p))]) hX0 hB0 dX9_valueOf_91 hl (by decide) rfl (fun ls hl => ?_)
                      refine lv_iinc (v := zI (j + (-1))) (lv' := [(7, .int (zI (j + (-1)))), (6, .int (zI ((w * y % p) + (c (((i * 5) + j).toNat))))), (5, .int (zI i)), (4, .int (zI q)), (3, .int (zI n)), (0, .ref h0), (1, .ref h1), (2, .int (zI p))]) hX0 hB0 dX9_valueOf_93 hl (k := 1) rfl (zI_add _ _) (by decide) rfl (fun ls hl => ?_)
                      refine lv_goto (tgt := 43) hX0 hB0 dX9_valueOf_96 (by decide) ?_
                      exact ih43 (j + (-1)) ((w * y % p) + (c (((i * 5) + j).toNat))) ⟨by omega, by omega, by show _ = zforD _ (4 - i) 0 (4 - i - (j - 1)).toNat; rw [zforD_s _ _ _ hj1, ← hw]; first | exact (if_pos (Or.inl c_64)).symm | exact (if_pos (Or.inr c_73)).symm | exact (if_neg (by omega)).symm, by omega, by omega⟩ (by omega) H locs ls hW (lv_sub hl [0, 1, 2, 3, 4, 5, 6, 7] rfl)
            exact hL43 _ (4 - i) 0 ⟨by omega, by omega, by rw [show (4 - i - (4 - i)).toNat = 0 by omega]; rfl, by omega, by omega⟩ (Nat.lt_succ_self _) H locs ls hW (lv_sub hl [0, 1, 2, 3, 4, 5, 6, 7] rfl)
      exact hL29 _ 4 0 ⟨by omega, by omega, rfl, by omega, by omega⟩ (Nat.lt_succ_self _) H locs ls hW (lv_sub hl [0, 1, 2, 3, 4, 5] rfl)
    refine lv_aload_n hX0 hB0 dX9_valueOf_7 rfl (lv_at hl 0 rfl) ?_
    refine z_get (Cn := RX9) (T := TX9) (N := 3) CX hW (v := .int (zI z)) hf0 rfl (fun w h => List.mem_cons_of_mem _ (List.mem_append_left _ (List.mem_append_right _ h))) 2 (by decide) (List.mem_of_getElem? (i := 1) rfl) rfl rfl dX9_valueOf_8 ?_
    refine z_if_ne (tgt := 21) CX dX9_valueOf_11 (by decide) (by constructor <;> omega) (fun c_11 => ?_) (fun c_11 => ?_)
    ·
      refine lv_iconst (v := zI (-1)) hX0 hB0 dX9_valueOf_21 rfl ?_
      exact hJ22 (-1) ⟨by first | rw [if_pos c_11] | rw [if_neg c_11], by omega, by omega⟩ H locs ls hW (lv_sub hl [0, 1, 2] rfl)
    ·
      refine lv_aload_n hX0 hB0 dX9_valueOf_14 rfl (lv_at hl 1 rfl) ?_
      refine z_calli hW (va_runV (C := RX2) (As := []) (rest := []) CX.fix (c_top l (f := f) h1 ha c hg0 hg1 (by first | assumption | exact zcan_le (by assumption) (by omega))) (cwV 0 CX.fix.2.2.2.2 gX9_valueOf_X2_top rfl rfl rfl (by decide +kernel) ⟨Nat.le_of_ble_eq_true rfl, Nat.le_of_ble_eq_true rfl⟩) (z_preV CX hW (r := (RX2, TX2, 1)) hg0 rfl) rfl rfl hl.1 rfl (lv_room (Nat.le_of_ble_eq_true rfl)) dX9_valueOf_15 ⟨Nat.zero_le _, Nat.zero_le _⟩) (fun zv gn H locs hok15 hW => ?_)
      obtain ⟨ez, eg⟩ := hok15
      have eg : gn = f := eg
      rw [eg] at hW
      clear eg
      have ez : zv = ztop c := ez
      rw [ez]
      clear ez
      have htp15 := ztop_rng c
      refine lv_goto (tgt := 22) hX0 hB0 dX9_valueOf_18 (by decide) ?_
      exact hJ22 (ztop c) ⟨by first | rw [if_pos c_11] | rw [if_neg c_11], by omega, by omega⟩ H locs ls hW (lv_sub hl [0, 1, 2] rfl)
  ·
    omega
end ZSp
