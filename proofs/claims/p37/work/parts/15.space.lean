section ZAM
variable {p : Program} {l : Launch} {e : Env} {R : Room} {s : State} {m : MethodId} {args : Array Value} {below : List Frame} {meth : Method} {c : Code} {H : Heap} {locs : List Loc} {cells slots : Nat} {Q : State → Prop}
variable {cc : ByteArray} {nL pc : Nat} {ret : Option FieldType} {own : String} {Ts : List Cond} {ls : Array Slot} {rest : List Value} {D : va_G} {tys : List (ClassId × FieldType)} {L : List Nat} {A : Nat → Prop} {f g : Nat → va_E} {H0 : Heap} {a : Nat}
theorem z_aaldM (C : zC p s m args meth c cc nL ret own Ts) (hW : zW D tys L A s f H0 H locs) {cy : ClassId} {n : Nat} {r : Nat → Option Nat} {i : Int} {o : Option Nat} {ty : FieldType} (hf : f a = zAR cy n r) (t0 : Nat) (ht : tys[t0]? = some (cy, .array ty)) (hi : 0 ≤ i ∧ i < n ∧ i ≤ 2147483647) (hz : r i.toNat = o) (hdg : decode cc pc = .ok (.aaload, 1))
    (kk : W p l e R s m args below meth c H locs cells slots Q (F0 m (pc + 1) ls (va_rf o :: rest))) : W p l e R s m args below meth c H locs cells slots Q (F0 m pc ls (.int (zI i) :: .ref a :: rest)) := by
  obtain ⟨k0, hk0⟩ := zpl_at (D := D) (f := f) (hW.mem hf zJi)
  rw [hf] at hk0
  have hin := zI_in (n := n) hi.1 hi.2.1 hi.2.2
  have hlt : (zI i).toNatClampNeg < n := Nat.not_le.mp fun q => hin (Or.inr q)
  refine W.aald (v := va_rf (r (zI i).toNatClampNeg)) (ty := .array ty) C.1 C.2.1 (hW.1 k0 _ hk0) ((hW.2.2.2.1.2 t0 _ ht).1 n (fun j => va_rf (r j))) rfl (fun q => by cases q) (by show ¬ (zI i < 0 ∨ (arrV _ _ _).slots.size ≤ _); rw [arrV_size]; exact hin) (by show (arrV _ _ _).slots[_]? = _; rw [arrV_read _ _ hlt]) rfl rfl hdg ?_
  rw [zI_clamp hi.1 hi.2.2]
  subst hz
  exact kk
end ZAM
section ZSpc
/-- outside a stretch and one place g is f -/
def zFr2 (f g : Nat → va_E) (lo hi t : Nat) : Prop := ∀ q, ¬ (lo ≤ q ∧ q < hi) ∧ q ≠ t → g q = f q
/-- a space at s -/
def zSpace (cI cZ cM : ClassId) (f : Nat → va_E) (s : Nat) (w lim p : Int) (R : Nat → Nat → Int) (K : Nat → Int) : Prop :=
  f s = .inr (8, [.ref (s + 1), .ref (s + 96), .int (zI w), .int (zI lim), .int (zI p)]) ∧ f (s + 1) = zAR cM 94 (fun j => some (s + 2 + j)) ∧ (∀ i, i < 94 → f (s + 2 + i) = zA cI 94 (R i)) ∧ f (s + 96) = zA cZ 94 K ∧ zcan 2 K
theorem zSpace.same {cI cZ cM : ClassId} {f g : Nat → va_E} {s : Nat} {w lim p : Int} {R : Nat → Nat → Int} {K : Nat → Int} (h : zSpace cI cZ cM f s w lim p R K) (hs : ∀ b, s ≤ b → b < s + 97 → g b = f b) : zSpace cI cZ cM g s w lim p R K :=
  ⟨(hs _ (by omega) (by omega)).trans h.1, (hs _ (by omega) (by omega)).trans h.2.1, fun i hi => (hs _ (by omega) (by omega)).trans (h.2.2.1 i hi), (hs _ (by omega) (by omega)).trans h.2.2.2.1, h.2.2.2.2⟩
theorem zSpace.row {cI cZ cM : ClassId} {f : Nat → va_E} {s : Nat} {w lim p : Int} {R : Nat → Nat → Int} {K c : Nat → Int} {j : Nat} (h : zSpace cI cZ cM f s w lim p R K) (hj : j < 94) : zSpace cI cZ cM (va_up f (s + 2 + j) (zA cI 94 c)) s w lim p (zset R j c) K :=
  ⟨(va_up_ne _ _ (by omega)).trans h.1, (va_up_ne _ _ (by omega)).trans h.2.1, fun i hi => by
    by_cases e : i = j
    · rw [e, va_up_self, zset_self]
    · rw [va_up_ne _ _ (by omega), zset_ne _ _ e]
      exact h.2.2.1 i hi, (va_up_ne _ _ (by omega)).trans h.2.2.2.1, h.2.2.2.2⟩
theorem zSpace.kn {cI cZ cM : ClassId} {f : Nat → va_E} {s : Nat} {w lim p : Int} {R : Nat → Nat → Int} {K K2 : Nat → Int} (h : zSpace cI cZ cM f s w lim p R K) (hK : zcan 2 K2) : zSpace cI cZ cM (va_up f (s + 96) (zA cZ 94 K2)) s w lim p R K2 :=
  ⟨(va_up_ne _ _ (by omega)).trans h.1, (va_up_ne _ _ (by omega)).trans h.2.1, fun i hi => (va_up_ne _ _ (by omega)).trans (h.2.2.1 i hi), va_up_self _ _ _, hK⟩
/-- the row that a line makes: v times it -/
def zkeep (p w : Int) (o c : Nat → Int) (v : Int) : Nat → Int := fun k => if (k : Int) < w then c k * v % p else o k
/-- a line more by o times a row, from a column on -/
def zlin_s (r : Nat → Int) (o p : Int) : Int → (Nat → Int) → (Nat → Int) := fun k c => zup c k.toNat ((c k.toNat + o * r k.toNat) % p)
def zlin (r : Nat → Int) (o p w i : Int) (c : Nat → Int) : Nat → Int := zfor (zlin_s r o p) i c (w - i).toNat
theorem zlin_can {r : Nat → Int} {o p w i q : Int} {c : Nat → Int} (hp : 0 < p) (hq : p ≤ q) (h : zcan q c) : zcan q (zlin r o p w i c) :=
  zfor_inv (zcan q) h (fun i x hx => zcan_up hx _ ⟨(zmr _ hp).1, Int.lt_of_lt_of_le (zmr _ hp).2 hq⟩) _
/-- a line goes down by the rows: the column that it is kept for, or none; what is left of it -/
def zsp (K : Nat → Int) (R : Nat → Nat → Int) (w p : Int) : Nat → Int → (Nat → Int) → Option Int × (Nat → Int)
  | 0, _, c => (none, c)
  | n + 1, i, c => if c i.toNat = 0 then zsp K R w p n (i + 1) c else if K i.toNat = 0 then (some i, c) else zsp K R w p n (i + 1) (zlin (R i.toNat) (p - c i.toNat) p w i c)
def zspan (K : Nat → Int) (R : Nat → Nat → Int) (w lim p : Int) (c : Nat → Int) : Option Int × (Nat → Int) := zsp K R w p (lim - 0).toNat 0 c
def zspR (K : Nat → Int) (R : Nat → Nat → Int) (w lim p : Int) (c : Nat → Int) : Nat → Nat → Int := match zspan K R w lim p c with
  | (none, _) => R
  | (some i, d) => zset R i.toNat (zkeep p w (R i.toNat) d (zinv (d i.toNat) p))
def zspK (K : Nat → Int) (R : Nat → Nat → Int) (w lim p : Int) (c : Nat → Int) : Nat → Int := match zspan K R w lim p c with
  | (none, _) => K
  | (some i, _) => zup K i.toNat 1
def zsp1 (K : Nat → Int) (R : Nat → Nat → Int) (w lim p : Int) (c : Nat → Int) : Int := match (zspan K R w lim p c).1 with
  | none => 0
  | some _ => 1
theorem zsp1_01 (K : Nat → Int) (R : Nat → Nat → Int) (w lim p : Int) (c : Nat → Int) : zsp1 K R w lim p c = 0 ∨ zsp1 K R w lim p c = 1 := by
  unfold zsp1
  split
  · exact Or.inl rfl
  · exact Or.inr rfl
theorem zsp_can {K : Nat → Int} {R : Nat → Nat → Int} {w p q : Int} (hp : 0 < p) (hq : p ≤ q) : ∀ (n : Nat) (i : Int) (c : Nat → Int), zcan q c → zcan q (zsp K R w p n i c).2
  | 0, _, c, h => h
  | n + 1, i, c, h => by
    simp only [zsp]
    split
    · exact zsp_can hp hq n _ _ h
    · split
      · exact h
      · exact zsp_can hp hq n _ _ (zlin_can hp hq h)
theorem zspan_can {K : Nat → Int} {R : Nat → Nat → Int} {w lim p q : Int} {c : Nat → Int} (hp : 0 < p) (hq : p ≤ q) (h : zcan q c) : zcan q (zspan K R w lim p c).2 := zsp_can hp hq _ _ _ h
theorem zkeep_can {p q w v : Int} {o c : Nat → Int} (hp : 0 < p) (hq : p ≤ q) (h : zcan q o) : zcan q (zkeep p w o c v) := fun k => by
  unfold zkeep
  split
  · exact ⟨(zmr _ hp).1, Int.lt_of_lt_of_le (zmr _ hp).2 hq⟩
  · exact h k
theorem zspR_can {K : Nat → Int} {R : Nat → Nat → Int} {w lim p q : Int} {c : Nat → Int} (hp : 0 < p) (hq : p ≤ q) (h : ∀ i, zcan q (R i)) : ∀ i, zcan q (zspR K R w lim p c i) := fun i => by
  unfold zspR
  generalize zspan K R w lim p c = z
  obtain ⟨o, d⟩ := z
  cases o with
  | none => exact h i
  | some j =>
    show zcan q (zset R j.toNat (zkeep p w (R j.toNat) d (zinv (d j.toNat) p)) i)
    by_cases e : i = j.toNat
    · rw [e, zset_self]
      exact zkeep_can hp hq (h _)
    · rw [zset_ne _ _ e]
      exact h i
set_option maxRecDepth 100000 in
set_option maxHeartbeats 4000000 in
/-- Space.begin -/
theorem c_spbegin (l : Launch) {D : va_G} {cI cJ cZ cP cS cM : ClassId} {L : List Nat} {sz : Nat} {f : Nat → va_E} (s : Nat) (w lim p : Int) (R : Nat → Nat → Int) (K : Nat → Int) (co ct q : Int) (hS : zSpace cI cZ cM f s w lim p R K) (hco : 0 ≤ co ∧ co ≤ 10000) (hct : 0 ≤ ct ∧ ct ≤ 10000) (hq : 2 ≤ q ∧ q ≤ 31) : zMv l yX8_begin wsX8_begin 1 21 D (zT cI cJ cZ cP cS cM) L sz f [.ref s, .int (zI co), .int (zI ct), .int (zI q)] (fun g => zFr f g s (s + 97) ∧ zSpace cI cZ cM g s (min co 94) (min ct (min co 94)) q R (fun _ => 0)) := by
  refine zWalk.met (nL := 5) (ret := none) (cc := cX8_begin) (by decide) rfl (Nat.le_of_ble_eq_true rfl) ?_
  intro pg en st mi ag bl mt cd ls CX hW hl
  have CX : zC pg st mi ag mt cd cX8_begin 5 none RX8 wsX8_begin := CX
  generalize hQ : MQ bl _ ag st 0 0 _ = Q
  have hX0 := CX.1
  have hB0 := CX.2.1
  have hl : lv_has ls 5 [(0, .ref s), (1, .int (zI co)), (2, .int (zI ct)), (3, .int (zI q))] := hl
  obtain ⟨H, eH⟩ : ∃ H, H = st.heap := ⟨_, rfl⟩
  obtain ⟨locs, eL⟩ : ∃ L : List Loc, L = [] := ⟨_, rfl⟩
  have hW : zW D (zT cI cJ cZ cP cS cM) L (zQ L sz) st f st.heap H locs := by rw [eH, eL]; exact hW
  suffices hgo : W pg l en ({ frames := 1, cells := 0, slots := 0, locals := 21 } : Room) st mi ag bl mt cd H locs 0 0 Q (F0 mi 0 ls []) by rw [eH, eL] at hgo; exact hgo
  clear eH eL
  refine lv_aload_n hX0 hB0 dX8_begin_0 rfl (lv_at hl 0 rfl) ?_
  refine lv_iload_n hX0 hB0 dX8_begin_1 rfl (lv_at hl 1 rfl) ?_
  refine lv_bipush (v := zI 94) hX0 hB0 dX8_begin_2 (by decide) ?_
  refine z_mmin (z := min co 94) CX hW hl.1 (CX.at (List.mem_of_getElem? (i := 1) rfl)) (CX.at (List.mem_of_getElem? (i := 2) rfl)) (CX.at (List.mem_of_getElem? (i := 3) rfl)) (CX.at (List.mem_of_getElem? (i := 4) rfl)) (Nat.le_of_ble_eq_true rfl) (Nat.le_of_ble_eq_true rfl) (Nat.zero_le _) (Nat.zero_le _) (by constructor <;> omega) (by constructor <;> omega) rfl dX8_begin_4 ?_
  refine z_put (Cn := RX8) (T := TX8) (N := 5) CX hW (v := .int (zI (min co 94))) hS.1 rfl (fun w h => List.mem_cons_of_mem _ (List.mem_append_right _ h)) tyX8 tyX8_ok nmX8 2 (by decide) (List.mem_of_getElem? (i := 5) rfl) rfl rfl rfl rfl (Nat.le_of_ble_eq_true rfl) (g := va_up f s (.inr (8, [.ref (s + 1), .ref (s + 96), .int (zI (min co 94)), .int (zI lim), .int (zI p)]))) rfl dX8_begin_7 (fun H locs hW => ?_)
  refine lv_aload_n hX0 hB0 dX8_begin_10 rfl (lv_at hl 0 rfl) ?_
  refine lv_iload_n hX0 hB0 dX8_begin_11 rfl (lv_at hl 2 rfl) ?_
  refine lv_aload_n hX0 hB0 dX8_begin_12 rfl (lv_at hl 0 rfl) ?_
  refine z_get (Cn := RX8) (T := TX8) (N := 5) CX hW (v := .int (zI (min co 94))) (va_up_self _ _ _) rfl (fun w h => List.mem_cons_of_mem _ (List.mem_append_right _ h)) 2 (by decide) (List.mem_of_getElem? (i := 5) rfl) rfl rfl dX8_begin_13 ?_
  refine z_mmin (z := min ct (min co 94)) CX hW hl.1 (CX.at (List.mem_of_getElem? (i := 1) rfl)) (CX.at (List.mem_of_getElem? (i := 2) rfl)) (CX.at (List.mem_of_getElem? (i := 3) rfl)) (CX.at (List.mem_of_getElem? (i := 4) rfl)) (Nat.le_of_ble_eq_true rfl) (Nat.le_of_ble_eq_true rfl) (Nat.zero_le _) (Nat.zero_le _) (by constructor <;> omega) (by constructor <;> omega) rfl dX8_begin_16 ?_
  refine z_put (Cn := RX8) (T := TX8) (N := 5) CX hW (v := .int (zI (min ct (min co 94)))) (va_up_self _ _ _) rfl (fun w h => List.mem_cons_of_mem _ (List.mem_append_right _ h)) tyX8 tyX8_ok nmX8 3 (by decide) (List.mem_of_getElem? (i := 6) rfl) rfl rfl rfl rfl (Nat.le_of_ble_eq_true rfl) (g := va_up f s (.inr (8, [.ref (s + 1), .ref (s + 96), .int (zI (min co 94)), .int (zI (min ct (min co 94))), .int (zI p)]))) va_up_up dX8_begin_19 (fun H locs hW => ?_)
  refine lv_aload_n hX0 hB0 dX8_begin_22 rfl (lv_at hl 0 rfl) ?_
  refine lv_iload_n hX0 hB0 dX8_begin_23 rfl (lv_at hl 3 rfl) ?_
  refine z_put (Cn := RX8) (T := TX8) (N := 5) CX hW (v := .int (zI q)) (va_up_self _ _ _) rfl (fun w h => List.mem_cons_of_mem _ (List.mem_append_right _ h)) tyX8 tyX8_ok nmX8 4 (by decide) (List.mem_of_getElem? (i := 7) rfl) rfl rfl rfl rfl (Nat.le_of_ble_eq_true rfl) (g := va_up f s (.inr (8, [.ref (s + 1), .ref (s + 96), .int (zI (min co 94)), .int (zI (min ct (min co 94))), .int (zI q)]))) va_up_up dX8_begin_24 (fun H locs hW => ?_)
  refine lv_iconst (v := zI 0) hX0 hB0 dX8_begin_27 rfl ?_
  refine lv_istore (lv' := [(4, .int (zI 0)), (0, .ref s), (1, .int (zI co)), (2, .int (zI ct)), (3, .int (zI q))]) hX0 hB0 dX8_begin_28 hl (by decide) rfl (fun ls hl => ?_)
  have hL30 : ∀ (fu : Nat) (k : Int) (kk : Nat → Int), (0 ≤ k ∧ k ≤ 94 ∧ ∀ j : Nat, (j : Int) < k → kk j = 0) → (94 - k).toNat < fu → ∀ (H : Heap) (locs : List Loc) (ls : Array Slot), zW D (zT cI cJ cZ cP cS cM) L (zQ L sz) st (va_up (va_up f s (.inr (8, [.ref (s + 1), .ref (s + 96), .int (zI (min co 94)), .int (zI (min ct (min co 94))), .int (zI q)]))) (s + 96) (zA cZ 94 kk)) st.heap H locs → lv_has ls 5 [(4, .int (zI k)), (0, .ref s)] → W pg l en ({ frames := 1, cells := 0, slots := 0, locals := 21 } : Room) st mi ag bl mt cd H locs 0 0 Q (F0 mi 30 ls []) := by
    intro fu
    induction fu with
    | zero => intro k kk _ hfu; exact absurd hfu (Nat.not_lt_zero _)
    | succ fu ih30 =>
      intro k kk hinv30 hfu30 H locs ls hW hl
      obtain ⟨hk0, hk1, hkk⟩ := hinv30
      refine lv_iload hX0 hB0 dX8_begin_30 (lv_at hl 0 rfl) ?_
      refine lv_bipush (v := zI 94) hX0 hB0 dX8_begin_32 (by decide) ?_
      refine z_icmp_ge (tgt := 51) CX dX8_begin_34 (by decide) (by constructor <;> omega) (by constructor <;> omega) (fun c_34 => ?_) (fun c_34 => ?_)
      ·
        have hW := hW.same (d := fun _ => 0) (fun j hj => hkk j (by omega))
        rw [← hQ]
        exact z_vret CX hW (by exact ⟨(zFr.refl.up (by omega)).up (by omega), (va_up_ne _ _ (by omega)).trans (va_up_self _ _ _), (va_up_ne _ _ (by omega)).trans ((va_up_ne _ _ (by omega)).trans hS.2.1), fun i hi => (va_up_ne _ _ (by omega)).trans ((va_up_ne _ _ (by omega)).trans (hS.2.2.1 i hi)), va_up_self _ _ _, fun _ => by show (0 : Int) ≤ 0 ∧ (0 : Int) < 2; omega⟩) dX8_begin_51
      ·
        refine lv_aload_n hX0 hB0 dX8_begin_37 rfl (lv_at hl 1 rfl) ?_
        refine z_get (Cn := RX8) (T := TX8) (N := 5) CX hW (v := .ref (s + 96)) ((va_up_ne _ _ (by omega)).trans (va_up_self _ _ _)) rfl (fun w h => List.mem_cons_of_mem _ (List.mem_append_right _ h)) 1 (by decide) (List.mem_of_getElem? (i := 8) rfl) rfl rfl dX8_begin_38 ?_
        refine lv_iload hX0 hB0 dX8_begin_41 (lv_at hl 0 rfl) ?_
        refine lv_iconst (v := zI 0) hX0 hB0 dX8_begin_43 rfl ?_
        refine z_zast CX hW (va_up_self _ _ _) 2 rfl (by refine ⟨?_, ?_, ?_⟩ <;> omega) (by omega) (g := va_up (va_up f s (.inr (8, [.ref (s + 1), .ref (s + 96), .int (zI (min co 94)), .int (zI (min ct (min co 94))), .int (zI q)]))) (s + 96) (zA cZ 94 (zup kk k.toNat 0))) va_up_up dX8_begin_44 (fun H locs hW => ?_)
        refine lv_iinc (v := zI (k + 1)) (lv' := [(4, .int (zI (k + 1))), (0, .ref s)]) hX0 hB0 dX8_begin_45 hl (k := 0) rfl (zI_add _ _) (by decide) rfl (fun ls hl => ?_)
        refine lv_goto (tgt := 30) hX0 hB0 dX8_begin_48 (by decide) ?_
        exact ih30 (k + 1) (zup kk k.toNat 0) ⟨by omega, by omega, zup_step (b := kk) (q := fun _ => 0) hkk hk0 rfl⟩ (by omega) H locs ls hW (lv_sub hl [0, 1] rfl)
  have hW := hW
  rw [show va_up f s (.inr (8, [.ref (s + 1), .ref (s + 96), .int (zI (min co 94)), .int (zI (min ct (min co 94))), .int (zI q)])) = va_up (va_up f s (.inr (8, [.ref (s + 1), .ref (s + 96), .int (zI (min co 94)), .int (zI (min ct (min co 94))), .int (zI q)]))) (s + 96) (zA cZ 94 K) from by rw [va_up_id (a := (s + 96)) ((va_up_ne _ _ (by omega)).trans hS.2.2.2.1)]] at hW
  exact hL30 _ 0 K ⟨by omega, by omega, fun j hj => by omega⟩ (Nat.lt_succ_self _) H locs ls hW (lv_sub hl [0, 1] rfl)
set_option maxRecDepth 100000 in
set_option maxHeartbeats 4000000 in
/-- Space.keep -/
theorem c_spkeep (l : Launch) {D : va_G} {cI cJ cZ cP cS cM : ClassId} {L : List Nat} {sz : Nat} {f : Nat → va_E} (s : Nat) (w lim p : Int) (R : Nat → Nat → Int) (K : Nat → Int) (t N : Nat) (c : Nat → Int) (i : Int) (hS : zSpace cI cZ cM f s w lim p R K) (ht : f t = zA cI N c) (hc : zcan 31 c) (htd : t < s ∨ s + 97 ≤ t) (hw : 0 ≤ w ∧ w ≤ 94 ∧ w ≤ N) (hN : N ≤ 94) (hp : 2 ≤ p ∧ p ≤ 31) (hi : 0 ≤ i ∧ i < 94 ∧ i < N) : zMv l yX8_keep wsX8_keep 1 22 D (zT cI cJ cZ cP cS cM) L sz f [.ref s, .ref t, .int (zI i)] (fun g => zFr f g s (s + 97) ∧ zSpace cI cZ cM g s w lim p (zset R i.toNat (zkeep p w (R i.toNat) c (zinv (c i.toNat) p))) (zup K i.toNat 1)) := by
  refine zWalk.met (nL := 5) (ret := none) (cc := cX8_keep) (by decide) rfl (Nat.le_of_ble_eq_true rfl) ?_
  intro pg en st mi ag bl mt cd ls CX hW hl
  have CX : zC pg st mi ag mt cd cX8_keep 5 none RX8 wsX8_keep := CX
  generalize hQ : MQ bl _ ag st 0 0 _ = Q
  have hX0 := CX.1
  have hB0 := CX.2.1
  have hl : lv_has ls 5 [(0, .ref s), (1, .ref t), (2, .int (zI i))] := hl
  obtain ⟨H, eH⟩ : ∃ H, H = st.heap := ⟨_, rfl⟩
  obtain ⟨locs, eL⟩ : ∃ L : List Loc, L = [] := ⟨_, rfl⟩
  have hW : zW D (zT cI cJ cZ cP cS cM) L (zQ L sz) st f st.heap H locs := by rw [eH, eL]; exact hW
  suffices hgo : W pg l en ({ frames := 1, cells := 0, slots := 0, locals := 22 } : Room) st mi ag bl mt cd H locs 0 0 Q (F0 mi 0 ls []) by rw [eH, eL] at hgo; exact hgo
  clear eH eL
  refine lv_aload_n hX0 hB0 dX8_keep_0 rfl (lv_at hl 1 rfl) ?_
  refine lv_iload_n hX0 hB0 dX8_keep_1 rfl (lv_at hl 2 rfl) ?_
  refine z_iald (z := c i.toNat) CX hW ht 0 rfl (by refine ⟨?_, ?_, ?_⟩ <;> omega) rfl dX8_keep_2 ?_
  have hr1 := hc i.toNat
  refine lv_aload_n hX0 hB0 dX8_keep_3 rfl (lv_at hl 0 rfl) ?_
  refine z_get (Cn := RX8) (T := TX8) (N := 5) CX hW (v := .int (zI p)) hS.1 rfl (fun w h => List.mem_cons_of_mem _ (List.mem_append_right _ h)) 4 (by decide) (List.mem_of_getElem? (i := 1) rfl) rfl rfl dX8_keep_4 ?_
  refine z_calli hW (va_runSN (As := [.int (zI (c i.toNat)), .int (zI p)]) (rest := []) CX.fix (c_inverse l (f := f) (c i.toNat) p (by constructor <;> omega) (by constructor <;> omega)) ⟨va_cnB (own := RX8) (host := "CurveMeets") (index := 40) 2 CX.fix.2.2.2.2 ggX8_keep_X11_inverse rfl rfl rfl (CX.2.2.2.2.2.2.2.1 _ (by decide +kernel)) (CX.at (List.mem_of_getElem? (i := 6) rfl)) (by decide +kernel) ⟨Nat.le_of_ble_eq_true rfl, Nat.le_of_ble_eq_true rfl⟩, CX.at (List.mem_of_getElem? (i := 5) rfl), trivial⟩ (z_preS CX hW) rfl rfl hl.1 rfl (lv_room (Nat.le_of_ble_eq_true rfl)) dX8_keep_7 ⟨Nat.zero_le _, Nat.zero_le _⟩) (fun zv gn H locs hok7 hW => ?_)
  obtain ⟨ez, eg⟩ := hok7
  have eg : gn = f := eg
  rw [eg] at hW
  clear eg
  have ez : zv = zinv (c i.toNat) p := ez
  rw [ez]
  clear ez
  have hinv7 := zinv_rng (c i.toNat) (p := p) (by omega)
  refine lv_istore_n (lv' := [(3, .int (zI (zinv (c i.toNat) p))), (0, .ref s), (1, .ref t), (2, .int (zI i))]) hX0 hB0 dX8_keep_10 rfl hl (by decide) rfl (fun ls hl => ?_)
  refine lv_iconst (v := zI 0) hX0 hB0 dX8_keep_11 rfl ?_
  refine lv_istore (lv' := [(4, .int (zI 0)), (3, .int (zI (zinv (c i.toNat) p))), (0, .ref s), (1, .ref t), (2, .int (zI i))]) hX0 hB0 dX8_keep_12 hl (by decide) rfl (fun ls hl => ?_)
  have hL14 : ∀ (fu : Nat) (k : Int) (cc : Nat → Int) (v : Int), (0 ≤ k ∧ k ≤ w ∧ v = zinv (c i.toNat) p ∧ 0 ≤ v ∧ v < p ∧ (∀ j : Nat, (j : Int) < k → cc j = c j * v % p) ∧ (∀ j : Nat, k ≤ (j : Int) → cc j = R i.toNat j)) → (94 - k).toNat < fu → ∀ (H : Heap) (locs : List Loc) (ls : Array Slot), zW D (zT cI cJ cZ cP cS cM) L (zQ L sz) st (va_up f (s + 2 + i.toNat) (zA cI 94 cc)) st.heap H locs → lv_has ls 5 [(4, .int (zI k)), (3, .int (zI v)), (0, .ref s), (1, .ref t), (2, .int (zI i))] → W pg l en ({ frames := 1, cells := 0, slots := 0, locals := 22 } : Room) st mi ag bl mt cd H locs 0 0 Q (F0 mi 14 ls []) := by
    intro fu
    induction fu with
    | zero => intro k cc v _ hfu; exact absurd hfu (Nat.not_lt_zero _)
    | succ fu ih14 =>
      intro k cc v hinv14 hfu14 H locs ls hW hl
      obtain ⟨hk0, hk1, ev, hv0, hv1, hcn, hcr⟩ := hinv14
      refine lv_iload hX0 hB0 dX8_keep_14 (lv_at hl 0 rfl) ?_
      refine lv_aload_n hX0 hB0 dX8_keep_16 rfl (lv_at hl 2 rfl) ?_
      refine z_get (Cn := RX8) (T := TX8) (N := 5) CX hW (v := .int (zI w)) ((va_up_ne _ _ (by omega)).trans hS.1) rfl (fun w h => List.mem_cons_of_mem _ (List.mem_append_right _ h)) 2 (by decide) (List.mem_of_getElem? (i := 2) rfl) rfl rfl dX8_keep_17 ?_
      refine z_icmp_ge (tgt := 51) CX dX8_keep_20 (by decide) (by constructor <;> omega) (by constructor <;> omega) (fun c_20 => ?_) (fun c_20 => ?_)
      ·
        have ecc : cc = zkeep p w (R i.toNat) c (zinv (c i.toNat) p) := funext fun j => by
          unfold zkeep
          rw [← ev]
          split
          · exact hcn j (by omega)
          · exact hcr j (by omega)
        refine lv_aload_n hX0 hB0 dX8_keep_51 rfl (lv_at hl 2 rfl) ?_
        refine z_get (Cn := RX8) (T := TX8) (N := 5) CX hW (v := .ref (s + 96)) ((va_up_ne _ _ (by omega)).trans hS.1) rfl (fun w h => List.mem_cons_of_mem _ (List.mem_append_right _ h)) 1 (by decide) (List.mem_of_getElem? (i := 4) rfl) rfl rfl dX8_keep_52 ?_
        refine lv_iload_n hX0 hB0 dX8_keep_55 rfl (lv_at hl 4 rfl) ?_
        refine lv_iconst (v := zI 1) hX0 hB0 dX8_keep_56 rfl ?_
        refine z_zast CX hW ((va_up_ne _ _ (by omega)).trans hS.2.2.2.1) 2 rfl (by refine ⟨?_, ?_, ?_⟩ <;> omega) (by omega) (g := va_up (va_up f (s + 2 + i.toNat) (zA cI 94 cc)) (s + 96) (zA cZ 94 (zup K i.toNat 1))) rfl dX8_keep_57 (fun H locs hW => ?_)
        rw [← hQ]
        exact z_vret CX hW (by exact ⟨(zFr.refl.up (by omega)).up (by omega), by rw [← ecc]; exact (hS.row (by omega)).kn (zcan_up hS.2.2.2.2 _ (by omega))⟩) dX8_keep_58
      ·
        refine lv_aload_n hX0 hB0 dX8_keep_23 rfl (lv_at hl 2 rfl) ?_
        refine z_get (Cn := RX8) (T := TX8) (N := 5) CX hW (v := .ref (s + 1)) ((va_up_ne _ _ (by omega)).trans hS.1) rfl (fun w h => List.mem_cons_of_mem _ (List.mem_append_right _ h)) 0 (by decide) (List.mem_of_getElem? (i := 3) rfl) rfl rfl dX8_keep_24 ?_
        refine lv_iload_n hX0 hB0 dX8_keep_27 rfl (lv_at hl 4 rfl) ?_
        refine z_aaldM (o := some (s + 2 + i.toNat)) CX hW ((va_up_ne _ _ (by omega)).trans hS.2.1) 5 rfl (by refine ⟨?_, ?_, ?_⟩ <;> omega) rfl dX8_keep_28 ?_
        refine lv_iload hX0 hB0 dX8_keep_29 (lv_at hl 0 rfl) ?_
        refine lv_aload_n hX0 hB0 dX8_keep_31 rfl (lv_at hl 3 rfl) ?_
        refine lv_iload hX0 hB0 dX8_keep_32 (lv_at hl 0 rfl) ?_
        refine z_iald (z := c k.toNat) CX hW ((va_up_ne _ _ (by omega)).trans ht) 0 rfl (by refine ⟨?_, ?_, ?_⟩ <;> omega) rfl dX8_keep_34 ?_
        have hr2 := hc k.toNat
        have hck := hc k.toNat
        have hkv := zmul_rng (a := c k.toNat) (b := v) (A := 31) (B := 31) (by omega) (by omega)
        refine lv_iload_n hX0 hB0 dX8_keep_35 rfl (lv_at hl 1 rfl) ?_
        refine z_imul (z := (c k.toNat) * v) CX dX8_keep_36 rfl ?_
        refine lv_aload_n hX0 hB0 dX8_keep_37 rfl (lv_at hl 2 rfl) ?_
        refine z_get (Cn := RX8) (T := TX8) (N := 5) CX hW (v := .int (zI p)) ((va_up_ne _ _ (by omega)).trans hS.1) rfl (fun w h => List.mem_cons_of_mem _ (List.mem_append_right _ h)) 4 (by decide) (List.mem_of_getElem? (i := 1) rfl) rfl rfl dX8_keep_38 ?_
        refine z_calli hW (va_runSN (As := [.int (zI ((c k.toNat) * v)), .int (zI p)]) (rest := [.int (zI k), .ref (s + 2 + i.toNat)]) CX.fix (c_mod l (f := va_up f (s + 2 + i.toNat) (zA cI 94 cc)) ((c k.toNat) * v) p (by constructor <;> omega) (by constructor <;> omega)) ⟨va_cnB (own := RX8) (host := "CurveMeets") (index := 43) 2 CX.fix.2.2.2.2 ggX8_keep_X11_mod rfl rfl rfl (CX.2.2.2.2.2.2.2.1 _ (by decide +kernel)) (CX.at (List.mem_of_getElem? (i := 6) rfl)) (by decide +kernel) ⟨Nat.le_of_ble_eq_true rfl, Nat.le_of_ble_eq_true rfl⟩, CX.at (List.mem_of_getElem? (i := 8) rfl), trivial⟩ (z_preS CX hW) rfl rfl hl.1 rfl (lv_room (Nat.le_of_ble_eq_true rfl)) dX8_keep_41 ⟨Nat.zero_le _, Nat.zero_le _⟩) (fun zv gn H locs hok41 hW => ?_)
        obtain ⟨ez, eg⟩ := hok41
        have eg : gn = va_up f (s + 2 + i.toNat) (zA cI 94 cc) := eg
        rw [eg] at hW
        clear eg
        have ez : zv = ((c k.toNat) * v) % p := ez
        rw [ez]
        clear ez
        have hm41 := zmr ((c k.toNat) * v) (p := p) (by omega)
        refine z_iast CX hW (va_up_self _ _ _) 0 rfl (by refine ⟨?_, ?_, ?_⟩ <;> omega) (g := va_up f (s + 2 + i.toNat) (zA cI 94 (zup cc k.toNat (((c k.toNat) * v) % p)))) va_up_up dX8_keep_44 (fun H locs hW => ?_)
        refine lv_iinc (v := zI (k + 1)) (lv' := [(4, .int (zI (k + 1))), (3, .int (zI v)), (0, .ref s), (1, .ref t), (2, .int (zI i))]) hX0 hB0 dX8_keep_45 hl (k := 0) rfl (zI_add _ _) (by decide) rfl (fun ls hl => ?_)
        refine lv_goto (tgt := 14) hX0 hB0 dX8_keep_48 (by decide) ?_
        exact ih14 (k + 1) (zup cc k.toNat (((c k.toNat) * v) % p)) v ⟨by omega, by omega, ev, hv0, hv1, zup_step (b := R i.toNat) hcn hk0 rfl, zup_rest (b := R i.toNat) hcr hk0⟩ (by omega) H locs ls hW (lv_sub hl [0, 1, 2, 3, 4] rfl)
  have hW := hW
  rw [show f = va_up f (s + 2 + i.toNat) (zA cI 94 (R i.toNat)) from by rw [va_up_id (a := (s + 2 + i.toNat)) (hS.2.2.1 i.toNat (by omega))]] at hW
  exact hL14 _ 0 (R i.toNat) (zinv (c i.toNat) p) ⟨by omega, by omega, rfl, by omega, by omega, fun j hj => by omega, fun j hj => rfl⟩ (Nat.lt_succ_self _) H locs ls hW (lv_sub hl [0, 1, 2, 3, 4] rfl)
set_option maxRecDepth 100000 in
set_option maxHeartbeats 4000000 in
/-- Space.add -/
theorem c_spadd (l : Launch) {D : va_G} {cI cJ cZ cP cS cM : ClassId} {L : List Nat} {sz : Nat} {f : Nat → va_E} (s : Nat) (w lim p : Int) (R : Nat → Nat → Int) (K : Nat → Int) (t N : Nat) (c : Nat → Int) (hS : zSpace cI cZ cM f s w lim p R K) (hR : ∀ i, zcan 31 (R i)) (ht : f t = zA cI N c) (hc : zcan p c) (htd : t < s ∨ s + 97 ≤ t) (hw : 0 ≤ w ∧ w ≤ 94 ∧ w ≤ N) (hN : N ≤ 94) (hp : 2 ≤ p ∧ p ≤ 31) (hlim : 0 ≤ lim ∧ lim ≤ w) : zMi l yX8_add wsX8_add 2 46 D (zT cI cJ cZ cP cS cM) L sz f [.ref s, .ref t] (fun z g => z = zsp1 K R w lim p c ∧ zFr2 f g s (s + 97) t ∧ g t = zA cI N (zspan K R w lim p c).2 ∧ zSpace cI cZ cM g s w lim p (zspR K R w lim p c) (zspK K R w lim p c)) := by
  refine zWalk.met (nL := 7) (ret := (some .boolean)) (cc := cX8_add) (by decide) rfl (Nat.le_of_ble_eq_true rfl) ?_
  intro pg en st mi ag bl mt cd ls CX hW hl
  have CX : zC pg st mi ag mt cd cX8_add 7 (some .boolean) RX8 wsX8_add := CX
  generalize hQ : MQ bl _ ag st 0 0 _ = Q
  have hX0 := CX.1
  have hB0 := CX.2.1
  have hl : lv_has ls 7 [(0, .ref s), (1, .ref t)] := hl
  obtain ⟨H, eH⟩ : ∃ H, H = st.heap := ⟨_, rfl⟩
  obtain ⟨locs, eL⟩ : ∃ L : List Loc, L = [] := ⟨_, rfl⟩
  have hW : zW D (zT cI cJ cZ cP cS cM) L (zQ L sz) st f st.heap H locs := by rw [eH, eL]; exact hW
  suffices hgo : W pg l en ({ frames := 2, cells := 0, slots := 0, locals := 46 } : Room) st mi ag bl mt cd H locs 0 0 Q (F0 mi 0 ls []) by rw [eH, eL] at hgo; exact hgo
  clear eH eL
  refine lv_aload_n hX0 hB0 dX8_add_0 rfl (lv_at hl 0 rfl) ?_
  refine z_get (Cn := RX8) (T := TX8) (N := 5) CX hW (v := .int (zI p)) hS.1 rfl (fun w h => List.mem_cons_of_mem _ (List.mem_append_right _ h)) 4 (by decide) (List.mem_of_getElem? (i := 1) rfl) rfl rfl dX8_add_1 ?_
  refine lv_iconst (v := zI 2) hX0 hB0 dX8_add_4 rfl ?_
  refine z_icmp_lt (tgt := 17) CX dX8_add_5 (by decide) (by constructor <;> omega) (by constructor <;> omega) (fun c_5 => ?_) (fun c_5 => ?_)
  ·
    omega
  ·
    refine lv_aload_n hX0 hB0 dX8_add_8 rfl (lv_at hl 1 rfl) ?_
    refine z_alen (n := N) CX hW ht 0 rfl rfl dX8_add_9 ?_
    refine lv_aload_n hX0 hB0 dX8_add_10 rfl (lv_at hl 0 rfl) ?_
    refine z_get (Cn := RX8) (T := TX8) (N := 5) CX hW (v := .int (zI w)) hS.1 rfl (fun w h => List.mem_cons_of_mem _ (List.mem_append_right _ h)) 2 (by decide) (List.mem_of_getElem? (i := 2) rfl) rfl rfl dX8_add_11 ?_
    refine z_icmp_ge (tgt := 19) CX dX8_add_14 (by decide) (by constructor <;> omega) (by constructor <;> omega) (fun c_14 => ?_) (fun c_14 => ?_)
    ·
      refine lv_iconst (v := zI 0) hX0 hB0 dX8_add_19 rfl ?_
      refine lv_istore_n (lv' := [(2, .int (zI 0)), (0, .ref s), (1, .ref t)]) hX0 hB0 dX8_add_20 rfl hl (by decide) rfl (fun ls hl => ?_)
      have hL21 : ∀ (fu : Nat) (i : Int) (co : Nat → Int), (0 ≤ i ∧ i ≤ lim ∧ zspan K R w lim p c = zsp K R w p (lim - i).toNat i co ∧ zcan p co) → (94 - i).toNat < fu → ∀ (H : Heap) (locs : List Loc) (ls : Array Slot), zW D (zT cI cJ cZ cP cS cM) L (zQ L sz) st (va_up f t (zA cI N co)) st.heap H locs → lv_has ls 7 [(2, .int (zI i)), (0, .ref s), (1, .ref t)] → W pg l en ({ frames := 2, cells := 0, slots := 0, locals := 46 } : Room) st mi ag bl mt cd H locs 0 0 Q (F0 mi 21 ls []) := by
        intro fu
        induction fu with
        | zero => intro i co _ hfu; exact absurd hfu (Nat.not_lt_zero _)
        | succ fu ih21 =>
          intro i co hinv21 hfu21 H locs ls hW hl
          obtain ⟨hi0, hi1, hst, hco⟩ := hinv21
          refine lv_iload_n hX0 hB0 dX8_add_21 rfl (lv_at hl 0 rfl) ?_
          refine lv_aload_n hX0 hB0 dX8_add_22 rfl (lv_at hl 1 rfl) ?_
          refine z_get (Cn := RX8) (T := TX8) (N := 5) CX hW (v := .int (zI lim)) ((va_up_ne _ _ (by omega)).trans hS.1) rfl (fun w h => List.mem_cons_of_mem _ (List.mem_append_right _ h)) 3 (by decide) (List.mem_of_getElem? (i := 3) rfl) rfl rfl dX8_add_23 ?_
          refine z_icmp_ge (tgt := 119) CX dX8_add_26 (by decide) (by constructor <;> omega) (by constructor <;> omega) (fun c_26 => ?_) (fun c_26 => ?_)
          ·
            refine lv_iconst (v := zI 0) hX0 hB0 dX8_add_119 rfl ?_
            rw [← hQ]
            exact z_iret (z := 0) CX hW (by exact ⟨by unfold zsp1; rw [hst, show (lim - i).toNat = 0 by omega]; rfl, fun q hq => va_up_ne _ _ hq.2, (va_up_self _ _ _).trans (by rw [hst, show (lim - i).toNat = 0 by omega]; rfl), by unfold zspR zspK; rw [hst, show (lim - i).toNat = 0 by omega]; exact hS.same (fun q h1 h2 => va_up_ne _ _ (by omega))⟩) rfl dX8_add_120
          ·
            refine lv_aload_n hX0 hB0 dX8_add_29 rfl (lv_at hl 2 rfl) ?_
            refine lv_iload_n hX0 hB0 dX8_add_30 rfl (lv_at hl 0 rfl) ?_
            refine z_iald (z := co i.toNat) CX hW (va_up_self _ _ _) 0 rfl (by refine ⟨?_, ?_, ?_⟩ <;> omega) rfl dX8_add_31 ?_
            have hr1 := hco i.toNat
            have hci := hco i.toNat
            have hu : zsp K R w p (lim - i).toNat i co = if co i.toNat = 0 then zsp K R w p (lim - (i + 1)).toNat (i + 1) co else if K i.toNat = 0 then (some i, co) else zsp K R w p (lim - (i + 1)).toNat (i + 1) (zlin (R i.toNat) (p - co i.toNat) p w i co) := by rw [show (lim - i).toNat = (lim - (i + 1)).toNat + 1 by omega]; rfl
            refine lv_istore_n (lv' := [(3, .int (zI (co i.toNat))), (2, .int (zI i)), (0, .ref s), (1, .ref t)]) hX0 hB0 dX8_add_32 rfl hl (by decide) rfl (fun ls hl => ?_)
            refine lv_iload_n hX0 hB0 dX8_add_33 rfl (lv_at hl 0 rfl) ?_
            refine z_if_ne (tgt := 40) CX dX8_add_34 (by decide) (by constructor <;> omega) (fun c_34 => ?_) (fun c_34 => ?_)
            ·
              refine lv_aload_n hX0 hB0 dX8_add_40 rfl (lv_at hl 2 rfl) ?_
              refine z_get (Cn := RX8) (T := TX8) (N := 5) CX hW (v := .ref (s + 96)) ((va_up_ne _ _ (by omega)).trans hS.1) rfl (fun w h => List.mem_cons_of_mem _ (List.mem_append_right _ h)) 1 (by decide) (List.mem_of_getElem? (i := 4) rfl) rfl rfl dX8_add_41 ?_
              refine lv_iload_n hX0 hB0 dX8_add_44 rfl (lv_at hl 1 rfl) ?_
              refine z_zald (z := K i.toNat) CX hW ((va_up_ne _ _ (by omega)).trans hS.2.2.2.1) 2 rfl (by refine ⟨?_, ?_, ?_⟩ <;> omega) rfl dX8_add_45 ?_
              have hr2 := hS.2.2.2.2 i.toNat
              refine z_if_ne (tgt := 57) CX dX8_add_46 (by decide) (by constructor <;> omega) (fun c_46 => ?_) (fun c_46 => ?_)
              ·
                have hop : co i.toNat ≤ 31 := by omega
                refine lv_aload_n hX0 hB0 dX8_add_57 rfl (lv_at hl 2 rfl) ?_
                refine z_get (Cn := RX8) (T := TX8) (N := 5) CX hW (v := .int (zI p)) ((va_up_ne _ _ (by omega)).trans hS.1) rfl (fun w h => List.mem_cons_of_mem _ (List.mem_append_right _ h)) 4 (by decide) (List.mem_of_getElem? (i := 1) rfl) rfl rfl dX8_add_58 ?_
                refine lv_iload_n hX0 hB0 dX8_add_61 rfl (lv_at hl 0 rfl) ?_
                refine z_isub (z := p - (co i.toNat)) CX dX8_add_62 rfl ?_
                refine lv_istore (lv' := [(4, .int (zI (p - (co i.toNat)))), (3, .int (zI (co i.toNat))), (2, .int (zI i)), (0, .ref s), (1, .ref t)]) hX0 hB0 dX8_add_63 hl (by decide) rfl (fun ls hl => ?_)
                refine lv_aload_n hX0 hB0 dX8_add_65 rfl (lv_at hl 3 rfl) ?_
                refine z_get (Cn := RX8) (T := TX8) (N := 5) CX hW (v := .ref (s + 1)) ((va_up_ne _ _ (by omega)).trans hS.1) rfl (fun w h => List.mem_cons_of_mem _ (List.mem_append_right _ h)) 0 (by decide) (List.mem_of_getElem? (i := 5) rfl) rfl rfl dX8_add_66 ?_
                refine lv_iload_n hX0 hB0 dX8_add_69 rfl (lv_at hl 2 rfl) ?_
                refine z_aaldM (o := some (s + 2 + i.toNat)) CX hW ((va_up_ne _ _ (by omega)).trans hS.2.1) 5 rfl (by refine ⟨?_, ?_, ?_⟩ <;> omega) rfl dX8_add_70 ?_
                refine lv_astore (lv' := [(5, .ref (s + 2 + i.toNat)), (4, .int (zI (p - (co i.toNat)))), (3, .int (zI (co i.toNat))), (2, .int (zI i)), (0, .ref s), (1, .ref t)]) hX0 hB0 dX8_add_71 hl (by decide) rfl (fun ls hl => ?_)
                refine lv_iload_n hX0 hB0 dX8_add_73 rfl (lv_at hl 3 rfl) ?_
                refine lv_istore (lv' := [(6, .int (zI i)), (5, .ref (s + 2 + i.toNat)), (4, .int (zI (p - (co i.toNat)))), (3, .int (zI (co i.toNat))), (2, .int (zI i)), (0, .ref s), (1, .ref t)]) hX0 hB0 dX8_add_74 hl (by decide) rfl (fun ls hl => ?_)
                have hL76 : ∀ (fu : Nat) (k : Int) (cc : Nat → Int), (i ≤ k ∧ k ≤ w ∧ cc = zfor (zlin_s (R i.toNat) (p - co i.toNat) p) i co (k - i).toNat ∧ zcan p cc) → (94 - k).toNat < fu → ∀ (H : Heap) (locs : List Loc) (ls : Array Slot), zW D (zT cI cJ cZ cP cS cM) L (zQ L sz) st (va_up f t (zA cI N cc)) st.heap H locs → lv_has ls 7 [(6, .int (zI k)), (5, .ref (s + 2 + i.toNat)), (4, .int (zI (p - (co i.toNat)))), (2, .int (zI i)), (3, .int (zI (co i.toNat))), (0, .ref s), (1, .ref t)] → W pg l en ({ frames := 2, cells := 0, slots := 0, locals := 46 } : Room) st mi ag bl mt cd H locs 0 0 Q (F0 mi 76 ls []) := by
                  intro fu
                  induction fu with
                  | zero => intro k cc _ hfu; exact absurd hfu (Nat.not_lt_zero _)
                  | succ fu ih76 =>
                    intro k cc hinv76 hfu76 H locs ls hW hl
                    obtain ⟨hk0, hk1, hcq, hcc⟩ := hinv76
                    refine lv_iload hX0 hB0 dX8_add_76 (lv_at hl 0 rfl) ?_
                    refine lv_aload_n hX0 hB0 dX8_add_78 rfl (lv_at hl 5 rfl) ?_
                    refine z_get (Cn := RX8) (T := TX8) (N := 5) CX hW (v := .int (zI w)) ((va_up_ne _ _ (by omega)).trans hS.1) rfl (fun w h => List.mem_cons_of_mem _ (List.mem_append_right _ h)) 2 (by decide) (List.mem_of_getElem? (i := 2) rfl) rfl rfl dX8_add_79 ?_
                    refine z_icmp_ge (tgt := 113) CX dX8_add_82 (by decide) (by constructor <;> omega) (by constructor <;> omega) (fun c_82 => ?_) (fun c_82 => ?_)
                    ·
                      refine lv_iinc (v := zI (i + 1)) (lv' := [(2, .int (zI (i + 1))), (6, .int (zI k)), (5, .ref (s + 2 + i.toNat)), (4, .int (zI (p - (co i.toNat)))), (3, .int (zI (co i.toNat))), (0, .ref s), (1, .ref t)]) hX0 hB0 dX8_add_113 hl (k := 3) rfl (zI_add _ _) (by decide) rfl (fun ls hl => ?_)
                      refine lv_goto (tgt := 21) hX0 hB0 dX8_add_116 (by decide) ?_
                      exact ih21 (i + 1) cc ⟨by omega, by omega, by rw [hst, hu]; first | rw [if_pos c_34] | (rw [if_neg c_34, if_neg c_46]; unfold zlin; rw [show w = k by omega, ← hcq]), by first | exact hco | exact hcc⟩ (by omega) H locs ls hW (lv_sub hl [0, 5, 6] rfl)
                    ·
                      refine lv_aload_n hX0 hB0 dX8_add_85 rfl (lv_at hl 6 rfl) ?_
                      refine lv_iload hX0 hB0 dX8_add_86 (lv_at hl 0 rfl) ?_
                      refine lv_aload_n hX0 hB0 dX8_add_88 rfl (lv_at hl 6 rfl) ?_
                      refine lv_iload hX0 hB0 dX8_add_89 (lv_at hl 0 rfl) ?_
                      refine z_iald (z := cc k.toNat) CX hW (va_up_self _ _ _) 0 rfl (by refine ⟨?_, ?_, ?_⟩ <;> omega) rfl dX8_add_91 ?_
                      have hr3 := hcc k.toNat
                      refine lv_iload hX0 hB0 dX8_add_92 (lv_at hl 2 rfl) ?_
                      refine lv_aload hX0 hB0 dX8_add_94 (lv_at hl 1 rfl) ?_
                      refine lv_iload hX0 hB0 dX8_add_96 (lv_at hl 0 rfl) ?_
                      refine z_iald (z := (R i.toNat) k.toNat) CX hW ((va_up_ne _ _ (by omega)).trans (hS.2.2.1 i.toNat (by omega))) 0 rfl (by refine ⟨?_, ?_, ?_⟩ <;> omega) rfl dX8_add_98 ?_
                      have hr4 := (hR i.toNat) k.toNat
                      refine z_imul (z := (p - (co i.toNat)) * ((R i.toNat) k.toNat)) CX dX8_add_99 rfl ?_
                      refine z_iadd (z := (cc k.toNat) + ((p - (co i.toNat)) * ((R i.toNat) k.toNat))) CX dX8_add_100 rfl ?_
                      refine lv_aload_n hX0 hB0 dX8_add_101 rfl (lv_at hl 5 rfl) ?_
                      refine z_get (Cn := RX8) (T := TX8) (N := 5) CX hW (v := .int (zI p)) ((va_up_ne _ _ (by omega)).trans hS.1) rfl (fun w h => List.mem_cons_of_mem _ (List.mem_append_right _ h)) 4 (by decide) (List.mem_of_getElem? (i := 1) rfl) rfl rfl dX8_add_102 ?_
                      have hod := zmul_rng (a := p - co i.toNat) (b := R i.toNat k.toNat) (A := 31) (B := 31) (by omega) (by omega)
                      have hmm := zmr (cc k.toNat + (p - co i.toNat) * R i.toNat k.toNat) (p := p) (by omega)
                      refine z_irem (z := (cc k.toNat + (p - co i.toNat) * R i.toNat k.toNat) % p) CX dX8_add_105 (by constructor <;> omega) (by constructor <;> omega) (Int.tmod_eq_emod_of_nonneg (by omega)) ?_
                      refine z_iast CX hW (va_up_self _ _ _) 0 rfl (by refine ⟨?_, ?_, ?_⟩ <;> omega) (g := va_up f t (zA cI N (zup cc k.toNat ((cc k.toNat + (p - co i.toNat) * R i.toNat k.toNat) % p)))) va_up_up dX8_add_106 (fun H locs hW => ?_)
                      refine lv_iinc (v := zI (k + 1)) (lv' := [(6, .int (zI (k + 1))), (5, .ref (s + 2 + i.toNat)), (4, .int (zI (p - (co i.toNat)))), (2, .int (zI i)), (3, .int (zI (co i.toNat))), (0, .ref s), (1, .ref t)]) hX0 hB0 dX8_add_107 hl (k := 0) rfl (zI_add _ _) (by decide) rfl (fun ls hl => ?_)
                      refine lv_goto (tgt := 76) hX0 hB0 dX8_add_110 (by decide) ?_
                      exact ih76 (k + 1) (zup cc k.toNat ((cc k.toNat + (p - co i.toNat) * R i.toNat k.toNat) % p)) ⟨by omega, by omega, by rw [zfor_s _ _ _ hk0, ← hcq]; rfl, zcan_up hcc _ (by omega)⟩ (by omega) H locs ls hW (lv_sub hl [0, 1, 2, 3, 4, 5, 6] rfl)
                exact hL76 _ i co ⟨by omega, by omega, (zfor_0 _ _ _).symm, hco⟩ (Nat.lt_succ_self _) H locs ls hW (lv_sub hl [0, 1, 2, 4, 3, 5, 6] rfl)
              ·
                refine lv_aload_n hX0 hB0 dX8_add_49 rfl (lv_at hl 2 rfl) ?_
                refine lv_aload_n hX0 hB0 dX8_add_50 rfl (lv_at hl 3 rfl) ?_
                refine lv_iload_n hX0 hB0 dX8_add_51 rfl (lv_at hl 1 rfl) ?_
                refine z_callv hW (va_runV (C := RX8) (As := [.ref t, .int (zI i)]) (rest := []) CX.fix (c_spkeep l (f := va_up f t (zA cI N co)) s w lim p R K t N co i (hS.same (fun q h1 h2 => va_up_ne _ _ (by omega))) (va_up_self _ _ _) (by first | assumption | exact zcan_le (by assumption) (by omega)) (by omega) (by omega) (by omega) (by omega) (by omega)) (cwV 2 CX.fix.2.2.2.2 gX8_add_X8_keep rfl rfl rfl (by decide +kernel) ⟨Nat.le_of_ble_eq_true rfl, Nat.le_of_ble_eq_true rfl⟩) (z_preV CX hW (r := (RX8, TX8, 5)) ((va_up_ne _ _ (by omega)).trans hS.1) rfl) rfl rfl hl.1 rfl (lv_room (Nat.le_of_ble_eq_true rfl)) dX8_add_52 ⟨Nat.zero_le _, Nat.zero_le _⟩) (fun gn H locs hok52 hW => ?_)
                obtain ⟨g52, eg52⟩ : ∃ q, q = gn := ⟨_, rfl⟩
                rw [← eg52] at hW hok52
                clear eg52
                obtain ⟨hfr52, hsp52⟩ := hok52
                refine lv_iconst (v := zI 1) hX0 hB0 dX8_add_55 rfl ?_
                rw [← hQ]
                refine z_iret (z := 1) CX hW ?_ rfl dX8_add_56
                have hst2 : zspan K R w lim p c = (some i, co) := by rw [hst, hu, if_neg c_34, if_pos c_46]
                exact ⟨by unfold zsp1; rw [hst2], fun q hq => ((hfr52 _ (by omega)).trans ((va_up_ne _ _ (by omega)).trans rfl)), (((hfr52 _ (by omega)).trans (va_up_self _ _ _))).trans (by rw [hst2]), by unfold zspR zspK; rw [hst2]; exact hsp52⟩
            ·
              refine lv_goto (tgt := 113) hX0 hB0 dX8_add_37 (by decide) ?_
              refine lv_iinc (v := zI (i + 1)) (lv' := [(2, .int (zI (i + 1))), (3, .int (zI (co i.toNat))), (0, .ref s), (1, .ref t)]) hX0 hB0 dX8_add_113 hl (k := 1) rfl (zI_add _ _) (by decide) rfl (fun ls hl => ?_)
              refine lv_goto (tgt := 21) hX0 hB0 dX8_add_116 (by decide) ?_
              exact ih21 (i + 1) co ⟨by omega, by omega, by rw [hst, hu]; first | rw [if_pos c_34] | (rw [if_neg c_34, if_neg c_46]; unfold zlin; rw [show w = k by omega, ← hcq]), by first | exact hco | exact hcc⟩ (by omega) H locs ls hW (lv_sub hl [0, 2, 3] rfl)
      have hW := hW
      rw [show f = va_up f t (zA cI N c) from by rw [va_up_id (a := t) ht]] at hW
      exact hL21 _ 0 c ⟨by omega, by omega, rfl, hc⟩ (Nat.lt_succ_self _) H locs ls hW (lv_sub hl [0, 1, 2] rfl)
    ·
      omega
end ZSpc
