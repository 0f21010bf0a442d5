section ZVi
theorem zCH_rng (k : Nat) : 0 ≤ zCH k ∧ zCH k ≤ 6 := by
  by_cases h : k < 25
  · have key : ∀ j : Nat, j < 25 → 0 ≤ zCH j ∧ zCH j ≤ 6 := by decide +kernel
    exact key k h
  · have e : zCH k = 0 := by
      unfold zCH
      rw [List.getD_eq_getElem?_getD, List.getElem?_eq_none (by show 25 ≤ k; omega)]
      rfl
    omega
/-- what the power k has in the n-th power of x and a letter -/
def zsh (p x n k : Int) : Int := if 0 ≤ n ∧ n ≤ 4 ∧ 0 ≤ k ∧ k ≤ 4 then zCH (n * 5 + k).toNat * zpow x p (n - k).toNat % p else 0
theorem zsh_rng (x n k : Int) {p : Int} (hp : 0 < p) : 0 ≤ zsh p x n k ∧ zsh p x n k < p := by
  unfold zsh
  split
  · exact zmr _ hp
  · omega
/-- a term comes, near -/
def zadn_in (p y j a left : Int) : Int → (Nat → Int) → (Nat → Int) := fun b c => zput c a b ((zat c a b + left * zsh p y j b) % p)
def zadn_out (p num x y i j : Int) : Int → (Nat → Int) → (Nat → Int) := fun a c => zfor (zadn_in p y j a (num * zsh p x i a % p)) 0 c (j + 1 - 0).toNat
def zadn (p num x y i j : Int) (c : Nat → Int) : Nat → Int := zfor (zadn_out p num x y i j) 0 c (i + 1 - 0).toNat
/-- far -/
def zadf_in (p num y j m : Int) : Int → (Nat → Int) → (Nat → Int) := fun b c => zput c b m ((zat c b m + num * zsh p y j b) % p)
def zadf (p num x y i j n : Int) (c : Nat → Int) : Nat → Int := if x = 0 then zput c i (n - i - j) ((zat c i (n - i - j) + num) % p) else zfor (zadf_in p num y j (n - i - j)) 0 c (j + 1 - 0).toNat
theorem zadn_can {p num x y i j : Int} {c : Nat → Int} (hp : 0 < p) (h : zcan p c) : zcan p (zadn p num x y i j c) :=
  zfor_inv (zcan p) h (fun a x hx => zfor_inv (zcan p) hx (fun b y hy => zcan_put hy _ _ (zmr _ hp)) _) _
theorem zadf_can {p num x y i j n : Int} {c : Nat → Int} (hp : 0 < p) (h : zcan p c) : zcan p (zadf p num x y i j n c) := by
  unfold zadf
  split
  · exact zcan_put h _ _ (zmr _ hp)
  · exact zfor_inv (zcan p) h (fun b y hy => zcan_put hy _ _ (zmr _ hp)) _
/-- the LOCAL one -/
def zlook_in (d : Nat → Int) (p x y z n i : Int) : Int → (Nat → Int) → (Nat → Int) := fun j c => if zat d i j = 0 then c else if z = 1 then zadn p (zat d i j) x y i j c else zadf p (zat d i j) x y i j n c
def zlook_out (d : Nat → Int) (p x y z n : Int) : Int → (Nat → Int) → (Nat → Int) := fun i c => zfor (zlook_in d p x y z n i) 0 c (4 - i + 1 - 0).toNat
def zlookL (d : Nat → Int) (p x y z n : Int) : Nat → Int := zfor (zlook_out d p x y z n) 0 (zone 0) (5 - 0 : Int).toNat
def zlook (d : Nat → Int) (p x y z : Int) : Nat → Int := zlookL d p x y z (ztop d)
theorem zlook_can {d : Nat → Int} {p x y z : Int} (hp : 0 < p) : zcan p (zlook d p x y z) :=
  zfor_inv (zcan p) (zone_can hp (by omega)) (fun i c hc => zfor_inv (zcan p) hc (fun j c hc => by
    show zcan p (zlook_in d p x y z (ztop d) i j c)
    unfold zlook_in
    split
    · exact hc
    · split
      · exact zadn_can hp hc
      · exact zadf_can hp hc) _) _
/-- the ORDER -/
def zleastF (c : Nat → Int) : Nat → Int → Int
  | 0, _ => 4
  | n + 1, d => if 0 ≤ zlead c d then d else zleastF c n (d + 1)
def zleast (c : Nat → Int) : Int := zleastF c (5 - 0 : Int).toNat 0
theorem zleastF_rng (c : Nat → Int) : ∀ (n : Nat) (d : Int), 0 ≤ d → d + n ≤ 5 → 0 ≤ zleastF c n d ∧ zleastF c n d ≤ 4
  | 0, d, _, _ => by simp only [zleastF]; omega
  | n + 1, d, h1, h2 => by
    simp only [zleastF]
    split
    · omega
    · exact zleastF_rng c n (d + 1) (by omega) (by omega)
theorem zleast_rng (c : Nat → Int) : 0 ≤ zleast c ∧ zleast c ≤ 4 := zleastF_rng c _ 0 (by omega) (by decide)
theorem zleastF_s (c : Nat → Int) {d : Int} (h : d < 5) : zleastF c (5 - d).toNat d = if 0 ≤ zlead c d then d else zleastF c (5 - (d + 1)).toNat (d + 1) := by
  rw [show (5 - d).toNat = (5 - (d + 1)).toNat + 1 by omega]
  rfl
/-- what a polynomial of one letter is at w -/
def zhorn_s (lw : Nat → Int) (w p : Int) : Int → Int → Int := fun j k => (k * w + lw j.toNat) % p
def zhorn (lw : Nat → Int) (w p n : Int) : Int := zforD (zhorn_s lw w p) n 0 (n - -1).toNat
theorem zhorn_rng {lw : Nat → Int} {w p n : Int} (hp : 0 < p) : ∀ k : Nat, 0 ≤ zforD (zhorn_s lw w p) n 0 k ∧ zforD (zhorn_s lw w p) n 0 k < p
  | 0 => by show (0 : Int) ≤ 0 ∧ (0 : Int) < p; omega
  | k + 1 => zmr _ hp
/-- by v less w times u -/
def zdiv_s (w p : Int) : Int → (Nat → Int) × Int → (Nat → Int) × Int := fun j s => (zup s.1 j.toNat s.2, (s.2 * w + s.1 j.toNat) % p)
def zdiv1 (lw : Nat → Int) (w p n : Int) : Nat → Int := (zforD (zdiv_s w p) n (lw, 0) (n - -1).toNat).1
theorem zdiv_can {w p n q : Int} {s : (Nat → Int) × Int} (hp : 0 < p) (hq : p ≤ q) (h : zcan q s.1) (h2 : 0 ≤ s.2 ∧ s.2 < p) (k : Nat) : zcan q (zforD (zdiv_s w p) n s k).1 ∧ 0 ≤ (zforD (zdiv_s w p) n s k).2 ∧ (zforD (zdiv_s w p) n s k).2 < p :=
  zforD_inv (fun s : (Nat → Int) × Int => zcan q s.1 ∧ 0 ≤ s.2 ∧ s.2 < p) ⟨h, h2⟩ (fun i x hx => ⟨zcan_up hx.1 _ (by omega), zmr _ hp⟩) k
def zdivb (lw : Nat → Int) (w p n : Int) : Nat → Int := if zhorn lw w p n = 0 then zdiv1 lw w p n else lw
theorem zdivb_can {lw : Nat → Int} {w p n q : Int} (hp : 0 < p) (hq : p ≤ q) (h : zcan q lw) : zcan q (zdivb lw w p n) := by
  unfold zdivb
  split
  · exact (zdiv_can hp hq h (by show (0 : Int) ≤ 0 ∧ (0 : Int) < p; omega) _).1
  · exact h
/-- how often a WAY is TANGENT -/
def zlow_s (c : Nat → Int) (n : Int) : Int → (Nat → Int) → (Nat → Int) := fun j l => zup l j.toNat (zat c (n - j) j)
def zlow (c lw : Nat → Int) (n : Int) : Nat → Int := zfor (zlow_s c n) 0 lw (n + 1 - 0).toNat
def zofuF (lw : Nat → Int) (n : Int) : Nat → Int → Int
  | 0, o => o
  | k + 1, o => if lw (n - o).toNat = 0 then zofuF lw n k (o + 1) else o
def zofdF (w p n : Int) : Nat → Int → (Nat → Int) → Int × (Nat → Int)
  | 0, o, lw => (o, lw)
  | k + 1, o, lw => if zhorn lw w p (n - o) = 0 then zofdF w p n k (o + 1) (zdiv1 lw w p (n - o)) else (o, lw)
def zofL (c lw : Nat → Int) (w p n : Int) : Int × (Nat → Int) := if w = p then (zofuF (zlow c lw n) n (n - 0).toNat 0, zlow c lw n) else zofdF w p n (n - 0).toNat 0 (zlow c lw n)
def zoften (c lw : Nat → Int) (w p : Int) : Int × (Nat → Int) := zofL c lw w p (zleast c)
theorem zofuF_s (lw : Nat → Int) {n o : Int} (h : o < n) : zofuF lw n (n - o).toNat o = if lw (n - o).toNat = 0 then zofuF lw n (n - (o + 1)).toNat (o + 1) else o := by
  have e : (n - o).toNat = (n - (o + 1)).toNat + 1 := by omega
  show zofuF lw n ((n - o).toNat) o = _
  conv => lhs; rw [e]
  rfl
theorem zofdF_s (w p : Int) (lw : Nat → Int) {n o : Int} (h : o < n) : zofdF w p n (n - o).toNat o lw = if zhorn lw w p (n - o) = 0 then zofdF w p n (n - (o + 1)).toNat (o + 1) (zdiv1 lw w p (n - o)) else (o, lw) := by
  have e : (n - o).toNat = (n - (o + 1)).toNat + 1 := by omega
  rw [e]
  rfl
theorem zofuF_rng (lw : Nat → Int) (n : Int) : ∀ (k : Nat) (o : Int), 0 ≤ o → o ≤ zofuF lw n k o ∧ zofuF lw n k o ≤ o + k
  | 0, o, h => by simp only [zofuF]; omega
  | k + 1, o, h => by
    have := zofuF_rng lw n k (o + 1) (by omega)
    simp only [zofuF]
    split <;> omega
theorem zofdF_rng (w p n : Int) : ∀ (k : Nat) (o : Int) (lw : Nat → Int), 0 ≤ o → o ≤ (zofdF w p n k o lw).1 ∧ (zofdF w p n k o lw).1 ≤ o + k
  | 0, o, lw, h => by simp only [zofdF]; omega
  | k + 1, o, lw, h => by
    have := zofdF_rng w p n k (o + 1) (zdiv1 lw w p (n - o)) (by omega)
    simp only [zofdF]
    split
    · omega
    · show o ≤ o ∧ o ≤ _; omega
theorem zofdF_can {w p n q : Int} (hp : 0 < p) (hq : p ≤ q) : ∀ (k : Nat) (o : Int) (lw : Nat → Int), zcan q lw → zcan q (zofdF w p n k o lw).2
  | 0, o, lw, h => h
  | k + 1, o, lw, h => by
    simp only [zofdF]
    split
    · exact zofdF_can hp hq k _ _ (zdiv_can hp hq h (by show (0 : Int) ≤ 0 ∧ (0 : Int) < p; omega) _).1
    · exact h
theorem zlow_can {c lw : Nat → Int} {p n : Int} (hp : 0 < p) (hc : zcan p c) (h : zcan p lw) : zcan p (zlow c lw n) := zfor_inv (zcan p) h (fun i x hx => zcan_up hx _ (zat_can hp hc _ _)) _
theorem zoften_can {c lw : Nat → Int} {w p q : Int} (hp : 0 < p) (hq : p ≤ q) (hc : zcan q c) (h : zcan q lw) : zcan q (zoften c lw w p).2 := by
  unfold zoften zofL
  split
  · exact zlow_can (by omega) hc h
  · exact zofdF_can hp hq _ _ _ (zlow_can (by omega) hc h)
theorem zoften_rng (c lw : Nat → Int) (w p : Int) : 0 ≤ (zoften c lw w p).1 ∧ (zoften c lw w p).1 ≤ 4 := by
  have hn := zleast_rng c
  unfold zoften zofL
  split
  · have := zofuF_rng (zlow c lw (zleast c)) (zleast c) (zleast c - 0).toNat 0 (by omega)
    exact ⟨by omega, by omega⟩
  · have := zofdF_rng w p (zleast c) (zleast c - 0).toNat 0 (zlow c lw (zleast c)) (by omega)
    exact ⟨by omega, by omega⟩
/-- the BEND -/
def zbsum_s (c : Nat → Int) (p u v d : Int) : Int → Int → Int := fun i s => (s + zat c i (d - i) * (zpow u p i.toNat * zpow v p (d - i).toNat)) % p
def zbsum (c : Nat → Int) (p u v d : Int) : Int := zfor (zbsum_s c p u v d) 0 0 (d + 1 - 0).toNat
def zbendF (c : Nat → Int) (p u v : Int) : Nat → Int → Int
  | 0, _ => -2
  | n + 1, d => if zbsum c p u v d = 0 then zbendF c p u v n (d + 1) else d
def zbend (c : Nat → Int) (p : Int) : Int := if zleast c = 1 then zbendF c p (-zat c 0 1 % p) (zat c 1 0) (5 - 2 : Int).toNat 2 else -1
theorem zbendF_s (c : Nat → Int) (p u v : Int) {d : Int} (h : d < 5) : zbendF c p u v (5 - d).toNat d = if zbsum c p u v d = 0 then zbendF c p u v (5 - (d + 1)).toNat (d + 1) else d := by
  rw [show (5 - d).toNat = (5 - (d + 1)).toNat + 1 by omega]
  rfl
theorem zbendF_rng (c : Nat → Int) (p u v : Int) : ∀ (n : Nat) (d : Int), 0 ≤ d → d + n ≤ 5 → -2 ≤ zbendF c p u v n d ∧ zbendF c p u v n d ≤ 4
  | 0, d, _, _ => by simp only [zbendF]; omega
  | n + 1, d, h1, h2 => by
    simp only [zbendF]
    split
    · exact zbendF_rng c p u v n (d + 1) (by omega) (by omega)
    · omega
theorem zbend_rng (c : Nat → Int) (p : Int) : -2 ≤ zbend c p ∧ zbend c p ≤ 4 := by
  unfold zbend
  split
  · exact zbendF_rng _ _ _ _ _ 2 (by omega) (by decide)
  · omega
theorem zbsum_rng {c : Nat → Int} {p u v d : Int} (hp : 0 < p) : ∀ k : Nat, 0 ≤ zfor (zbsum_s c p u v d) 0 0 k ∧ zfor (zbsum_s c p u v d) 0 0 k < p
  | 0 => by show (0 : Int) ≤ 0 ∧ (0 : Int) < p; omega
  | k + 1 => zmr _ hp
set_option maxRecDepth 100000 in
set_option maxHeartbeats 4000000 in
/-- View.shifted -/
theorem c_shifted (l : Launch) {D : va_G} {cI cJ cZ cP cS cM : ClassId} {L : List Nat} {sz : Nat} {f : Nat → va_E} (v : Nat) (p x n k : Int) (q1 q2 : Nat) (hv0 : f v = .inr (10, [.ref q1, .ref q2, .int (zI p)])) (hp : 2 ≤ p ∧ p ≤ 31) (hx : -1000000 ≤ x ∧ x ≤ 1000000) (hn : -2147483648 ≤ n ∧ n ≤ 2147483647) (hk : -2147483648 ≤ k ∧ k ≤ 2147483647) : zMi l yX10_shifted wsX10_shifted 2 46 D (zT cI cJ cZ cP cS cM) L sz f [.ref v, .int (zI x), .int (zI n), .int (zI k)] (fun z g => z = zsh p x n k ∧ g = f) := by
  refine zWalk.met (nL := 4) (ret := (some .int)) (cc := cX10_shifted) (by decide) rfl (Nat.le_of_ble_eq_true rfl) ?_
  intro pg en st mi ag bl mt cd ls CX hW hl
  have CX : zC pg st mi ag mt cd cX10_shifted 4 (some .int) RX10 wsX10_shifted := CX
  generalize hQ : MQ bl _ ag st 0 0 _ = Q
  have hX0 := CX.1
  have hB0 := CX.2.1
  have hl : lv_has ls 4 [(0, .ref v), (1, .int (zI x)), (2, .int (zI n)), (3, .int (zI k))] := hl
  obtain ⟨H, eH⟩ : ∃ H, H = st.heap := ⟨_, rfl⟩
  obtain ⟨locs, eL⟩ : ∃ L : List Loc, L = [] := ⟨_, rfl⟩
  have hW : zW D (zT cI cJ cZ cP cS cM) L (zQ L sz) st f st.heap H locs := by rw [eH, eL]; exact hW
  suffices hgo : W pg l en ({ frames := 2, cells := 0, slots := 0, locals := 46 } : Room) st mi ag bl mt cd H locs 0 0 Q (F0 mi 0 ls []) by rw [eH, eL] at hgo; exact hgo
  clear eH eL
  refine lv_iload_n hX0 hB0 dX10_shifted_0 rfl (lv_at hl 2 rfl) ?_
  refine lv_iconst (v := zI 0) hX0 hB0 dX10_shifted_1 rfl ?_
  refine z_calli hW (va_runS (As := [.int (zI n), .int (zI 0)]) (rest := []) CX.fix (c_fits l (f := f) n 0 (by constructor <;> omega) (by constructor <;> omega)) (va_cwS 2 CX.fix.2.2.2.2 gX10_shifted_X2_fits rfl rfl rfl (by decide +kernel) ⟨Nat.le_of_ble_eq_true rfl, Nat.le_of_ble_eq_true rfl⟩) (z_preS CX hW) rfl rfl hl.1 rfl (lv_room (Nat.le_of_ble_eq_true rfl)) dX10_shifted_2 ⟨Nat.zero_le _, Nat.zero_le _⟩) (fun zv gn H locs hok2 hW => ?_)
  obtain ⟨ez, eg⟩ := hok2
  have eg : gn = f := eg
  rw [eg] at hW
  clear eg
  have ez : zv = bI (zfits n 0) := ez
  rw [ez]
  clear ez
  have hb2 := bI_01 (zfits n 0)
  refine z_if_eq (tgt := 16) CX dX10_shifted_5 (by decide) (by constructor <;> omega) (fun c_5 => ?_) (fun c_5 => ?_)
  ·
    have hq := bI_0 c_5
    unfold zfits at hq
    refine lv_iconst (v := zI 0) hX0 hB0 dX10_shifted_16 rfl ?_
    rw [← hQ]
    exact z_iret (z := 0) CX hW (by exact ⟨by unfold zsh; rw [if_neg (by omega)], rfl⟩) rfl dX10_shifted_17
  ·
    have hq := bI_1 c_5
    unfold zfits at hq
    refine lv_iload_n hX0 hB0 dX10_shifted_8 rfl (lv_at hl 3 rfl) ?_
    refine lv_iconst (v := zI 0) hX0 hB0 dX10_shifted_9 rfl ?_
    refine z_calli hW (va_runS (As := [.int (zI k), .int (zI 0)]) (rest := []) CX.fix (c_fits l (f := f) k 0 (by constructor <;> omega) (by constructor <;> omega)) (va_cwS 2 CX.fix.2.2.2.2 gX10_shifted_X2_fits rfl rfl rfl (by decide +kernel) ⟨Nat.le_of_ble_eq_true rfl, Nat.le_of_ble_eq_true rfl⟩) (z_preS CX hW) rfl rfl hl.1 rfl (lv_room (Nat.le_of_ble_eq_true rfl)) dX10_shifted_10 ⟨Nat.zero_le _, Nat.zero_le _⟩) (fun zv gn H locs hok10 hW => ?_)
    obtain ⟨ez, eg⟩ := hok10
    have eg : gn = f := eg
    rw [eg] at hW
    clear eg
    have ez : zv = bI (zfits k 0) := ez
    rw [ez]
    clear ez
    have hb10 := bI_01 (zfits k 0)
    refine z_if_ne (tgt := 18) CX dX10_shifted_13 (by decide) (by constructor <;> omega) (fun c_13 => ?_) (fun c_13 => ?_)
    ·
      have hq2 := bI_1 c_13
      unfold zfits at hq2
      refine z_gets CX hW hW.2.2.2.2.2.2.2.1.1 (List.mem_of_getElem? (i := 1) rfl) rfl dX10_shifted_18 ?_
      refine lv_iload_n hX0 hB0 dX10_shifted_21 rfl (lv_at hl 2 rfl) ?_
      refine lv_iconst (v := zI 5) hX0 hB0 dX10_shifted_22 rfl ?_
      refine z_imul (z := n * 5) CX dX10_shifted_23 rfl ?_
      refine lv_iload_n hX0 hB0 dX10_shifted_24 rfl (lv_at hl 3 rfl) ?_
      refine z_iadd (z := (n * 5) + k) CX dX10_shifted_25 rfl ?_
      refine z_tald (d := zCH) (z := zCH (((n * 5) + k).toNat)) CX hW hW.2.2.2.2.2.2.2.1.2 (by refine ⟨?_, ?_, ?_⟩ <;> omega) rfl dX10_shifted_26 ?_
      refine lv_iload_n hX0 hB0 dX10_shifted_27 rfl (lv_at hl 1 rfl) ?_
      refine lv_iload_n hX0 hB0 dX10_shifted_28 rfl (lv_at hl 2 rfl) ?_
      refine lv_iload_n hX0 hB0 dX10_shifted_29 rfl (lv_at hl 3 rfl) ?_
      refine z_isub (z := n - k) CX dX10_shifted_30 rfl ?_
      refine lv_aload_n hX0 hB0 dX10_shifted_31 rfl (lv_at hl 0 rfl) ?_
      refine z_get (Cn := RX10) (T := TX10) (N := 3) CX hW (v := .int (zI p)) hv0 rfl (fun w h => List.mem_cons_of_mem _ (List.mem_append_right _ h)) 2 (by decide) (List.mem_of_getElem? (i := 2) rfl) rfl rfl dX10_shifted_32 ?_
      refine z_calli hW (va_runSN (As := [.int (zI x), .int (zI (n - k)), .int (zI p)]) (rest := [.int (zI (zCH (((n * 5) + k).toNat)))]) CX.fix (c_power l (f := f) x (n - k) p (by constructor <;> omega) (by omega) (by omega) (by constructor <;> omega)) ⟨va_cnB (own := RX10) (host := "CurveMeets") (index := 75) 3 CX.fix.2.2.2.2 ggX10_shifted_X11_power rfl rfl rfl (CX.2.2.2.2.2.2.2.1 _ (by decide +kernel)) (CX.at (List.mem_of_getElem? (i := 8) rfl)) (by decide +kernel) ⟨Nat.le_of_ble_eq_true rfl, Nat.le_of_ble_eq_true rfl⟩, CX.at (List.mem_of_getElem? (i := 7) rfl), trivial⟩ (z_preS CX hW) rfl rfl hl.1 rfl (lv_room (Nat.le_of_ble_eq_true rfl)) dX10_shifted_35 ⟨Nat.zero_le _, Nat.zero_le _⟩) (fun zv gn H locs hok35 hW => ?_)
      obtain ⟨ez, eg⟩ := hok35
      have eg : gn = f := eg
      rw [eg] at hW
      clear eg
      have ez : zv = zpow x p (n - k).toNat := ez
      rw [ez]
      clear ez
      have hpw35 := zpow_rng x (p := p) (by omega) (n - k).toNat
      have hch := zCH_rng (n * 5 + k).toNat
      have hcm := zmul_rng (a := zCH (n * 5 + k).toNat) (b := zpow x p (n - k).toNat) (A := 6) (B := 31) (by omega) (by omega)
      refine z_imul (z := (zCH (((n * 5) + k).toNat)) * (zpow x p (n - k).toNat)) CX dX10_shifted_38 rfl ?_
      refine lv_aload_n hX0 hB0 dX10_shifted_39 rfl (lv_at hl 0 rfl) ?_
      refine z_get (Cn := RX10) (T := TX10) (N := 3) CX hW (v := .int (zI p)) hv0 rfl (fun w h => List.mem_cons_of_mem _ (List.mem_append_right _ h)) 2 (by decide) (List.mem_of_getElem? (i := 2) rfl) rfl rfl dX10_shifted_40 ?_
      refine z_calli hW (va_runSN (As := [.int (zI ((zCH (((n * 5) + k).toNat)) * (zpow x p (n - k).toNat))), .int (zI p)]) (rest := []) CX.fix (c_mod l (f := f) ((zCH (((n * 5) + k).toNat)) * (zpow x p (n - k).toNat)) p (by constructor <;> omega) (by constructor <;> omega)) ⟨va_cnB (own := RX10) (host := "CurveMeets") (index := 58) 2 CX.fix.2.2.2.2 ggX10_shifted_X11_mod rfl rfl rfl (CX.2.2.2.2.2.2.2.1 _ (by decide +kernel)) (CX.at (List.mem_of_getElem? (i := 8) rfl)) (by decide +kernel) ⟨Nat.le_of_ble_eq_true rfl, Nat.le_of_ble_eq_true rfl⟩, CX.at (List.mem_of_getElem? (i := 11) rfl), trivial⟩ (z_preS CX hW) rfl rfl hl.1 rfl (lv_room (Nat.le_of_ble_eq_true rfl)) dX10_shifted_43 ⟨Nat.zero_le _, Nat.zero_le _⟩) (fun zv gn H locs hok43 hW => ?_)
      obtain ⟨ez, eg⟩ := hok43
      have eg : gn = f := eg
      rw [eg] at hW
      clear eg
      have ez : zv = ((zCH (((n * 5) + k).toNat)) * (zpow x p (n - k).toNat)) % p := ez
      rw [ez]
      clear ez
      have hm43 := zmr ((zCH (((n * 5) + k).toNat)) * (zpow x p (n - k).toNat)) (p := p) (by omega)
      rw [← hQ]
      exact z_iret (z := ((zCH (((n * 5) + k).toNat)) * (zpow x p (n - k).toNat)) % p) CX hW (by exact ⟨by unfold zsh; rw [if_pos (by omega)], rfl⟩) rfl dX10_shifted_46
    ·
      have hq2 := bI_0 (show bI (zfits k 0) = 0 by omega)
      unfold zfits at hq2
      refine lv_iconst (v := zI 0) hX0 hB0 dX10_shifted_16 rfl ?_
      rw [← hQ]
      exact z_iret (z := 0) CX hW (by exact ⟨by unfold zsh; rw [if_neg (by omega)], rfl⟩) rfl dX10_shifted_17
set_option maxRecDepth 100000 in
set_option maxHeartbeats 4000000 in
/-- View.addNear -/
theorem c_addNear (l : Launch) {D : va_G} {cI cJ cZ cP cS cM : ClassId} {L : List Nat} {sz : Nat} {f : Nat → va_E} (v : Nat) (p : Int) (c lw : Nat → Int) (s : Nat) (x y z : Int) (num i j : Int) (hv0 : f v = .inr (10, [.ref (v + 1), .ref (v + 3), .int (zI p)])) (hv1 : f (v + 1) = .inr (2, [.ref (v + 2)])) (hv2 : f (v + 2) = zA cI 25 c) (hv3 : f (v + 3) = zA cI 5 lw) (hp : 2 ≤ p ∧ p ≤ 31) (hs0 : f s = .inr (9, [.int (zI x), .int (zI y), .int (zI z)])) (hsd : s < v ∨ v + 4 ≤ s) (hx : 0 ≤ x ∧ x ≤ 31) (hy : 0 ≤ y ∧ y ≤ 31) (hc : zcan p c) (hnum : 0 ≤ num ∧ num ≤ 31) (hi : 0 ≤ i ∧ i ≤ 4) (hj : 0 ≤ j ∧ j ≤ 4) : zMv l yX10_addNear wsX10_addNear 3 69 D (zT cI cJ cZ cP cS cM) L sz f [.ref v, .int (zI num), .int (zI i), .int (zI j), .ref s] (fun g => g = va_up f (v + 2) (zA cI 25 (zadn p num x y i j c))) := by
  refine zWalk.met (nL := 8) (ret := none) (cc := cX10_addNear) (by decide) rfl (Nat.le_of_ble_eq_true rfl) ?_
  intro pg en st mi ag bl mt cd ls CX hW hl
  have CX : zC pg st mi ag mt cd cX10_addNear 8 none RX10 wsX10_addNear := CX
  generalize hQ : MQ bl _ ag st 0 0 _ = Q
  have hX0 := CX.1
  have hB0 := CX.2.1
  have hl : lv_has ls 8 [(0, .ref v), (1, .int (zI num)), (2, .int (zI i)), (3, .int (zI j)), (4, .ref s)] := hl
  obtain ⟨H, eH⟩ : ∃ H, H = st.heap := ⟨_, rfl⟩
  obtain ⟨locs, eL⟩ : ∃ L : List Loc, L = [] := ⟨_, rfl⟩
  have hW : zW D (zT cI cJ cZ cP cS cM) L (zQ L sz) st f st.heap H locs := by rw [eH, eL]; exact hW
  suffices hgo : W pg l en ({ frames := 3, cells := 0, slots := 0, locals := 69 } : Room) st mi ag bl mt cd H locs 0 0 Q (F0 mi 0 ls []) by rw [eH, eL] at hgo; exact hgo
  clear eH eL
  refine lv_iconst (v := zI 0) hX0 hB0 dX10_addNear_0 rfl ?_
  refine lv_istore (lv' := [(5, .int (zI 0)), (0, .ref v), (1, .int (zI num)), (2, .int (zI i)), (3, .int (zI j)), (4, .ref s)]) hX0 hB0 dX10_addNear_1 hl (by decide) rfl (fun ls hl => ?_)
  have hL3 : ∀ (fu : Nat) (a : Int) (co : Nat → Int), (0 ≤ a ∧ (a ≤ i + 1 ∨ a = 0) ∧ co = zfor (zadn_out p num x y i j) 0 c (a - 0).toNat ∧ zcan p co) → (i + 1 - a).toNat < fu → ∀ (H : Heap) (locs : List Loc) (ls : Array Slot), zW D (zT cI cJ cZ cP cS cM) L (zQ L sz) st (va_up f (v + 2) (zA cI 25 co)) st.heap H locs → lv_has ls 8 [(5, .int (zI a)), (0, .ref v), (1, .int (zI num)), (2, .int (zI i)), (3, .int (zI j)), (4, .ref s)] → W pg l en ({ frames := 3, cells := 0, slots := 0, locals := 69 } : Room) st mi ag bl mt cd H locs 0 0 Q (F0 mi 3 ls []) := by
    intro fu
    induction fu with
    | zero => intro a co _ hfu; exact absurd hfu (Nat.not_lt_zero _)
    | succ fu ih3 =>
      intro a co hinv3 hfu3 H locs ls hW hl
      obtain ⟨ha0, ha1, heco, hco⟩ := hinv3
      refine lv_iload hX0 hB0 dX10_addNear_3 (lv_at hl 0 rfl) ?_
      refine lv_iload_n hX0 hB0 dX10_addNear_5 rfl (lv_at hl 3 rfl) ?_
      refine z_icmp_gt (tgt := 83) CX dX10_addNear_6 (by decide) (by constructor <;> omega) (by constructor <;> omega) (fun c_6 => ?_) (fun c_6 => ?_)
      ·
        rw [← hQ]
        exact z_vret CX hW (by rw [heco, show (a - 0).toNat = (i + 1 - 0).toNat by omega]; rfl) dX10_addNear_83
      ·
        refine lv_iload_n hX0 hB0 dX10_addNear_9 rfl (lv_at hl 2 rfl) ?_
        refine lv_aload_n hX0 hB0 dX10_addNear_10 rfl (lv_at hl 1 rfl) ?_
        refine lv_aload hX0 hB0 dX10_addNear_11 (lv_at hl 5 rfl) ?_
        refine z_get (Cn := RX9) (T := TX9) (N := 3) CX hW (v := .int (zI x)) ((va_up_ne _ _ (by omega)).trans hs0) rfl (fun w h => List.mem_cons_of_mem _ (List.mem_append_left _ (List.mem_append_left _ (List.mem_append_right _ h)))) 0 (by decide) (List.mem_of_getElem? (i := 1) rfl) rfl rfl dX10_addNear_13 ?_
        refine lv_iload_n hX0 hB0 dX10_addNear_16 rfl (lv_at hl 3 rfl) ?_
        refine lv_iload hX0 hB0 dX10_addNear_17 (lv_at hl 0 rfl) ?_
        refine z_calli hW (va_runV (C := RX10) (As := [.int (zI x), .int (zI i), .int (zI a)]) (rest := [.int (zI num)]) CX.fix (c_shifted l (f := va_up f (v + 2) (zA cI 25 co)) v p x i a (v + 1) (v + 3) ((va_up_ne _ _ (by omega)).trans hv0) (by constructor <;> omega) (by constructor <;> omega) (by constructor <;> omega) (by constructor <;> omega)) (cwV 3 CX.fix.2.2.2.2 gX10_addNear_X10_shifted rfl rfl rfl (by decide +kernel) ⟨Nat.le_of_ble_eq_true rfl, Nat.le_of_ble_eq_true rfl⟩) (z_preV CX hW (r := (RX10, TX10, 3)) ((va_up_ne _ _ (by omega)).trans hv0) rfl) rfl rfl hl.1 rfl (lv_room (Nat.le_of_ble_eq_true rfl)) dX10_addNear_19 ⟨Nat.zero_le _, Nat.zero_le _⟩) (fun zv gn H locs hok19 hW => ?_)
        obtain ⟨ez, eg⟩ := hok19
        have eg : gn = va_up f (v + 2) (zA cI 25 co) := eg
        rw [eg] at hW
        clear eg
        have ez : zv = zsh p x i a := ez
        rw [ez]
        clear ez
        have hsh19 := zsh_rng x i a (p := p) (by omega)
        have hmu19 := zmul_rng (a := num) (b := zsh p x i a) (A := 31) (B := 31) (by omega) (by omega)
        refine z_imul (z := num * (zsh p x i a)) CX dX10_addNear_22 rfl ?_
        refine lv_aload_n hX0 hB0 dX10_addNear_23 rfl (lv_at hl 1 rfl) ?_
        refine z_get (Cn := RX10) (T := TX10) (N := 3) CX hW (v := .int (zI p)) ((va_up_ne _ _ (by omega)).trans hv0) rfl (fun w h => List.mem_cons_of_mem _ (List.mem_append_left _ (List.mem_append_right _ h))) 2 (by decide) (List.mem_of_getElem? (i := 2) rfl) rfl rfl dX10_addNear_24 ?_
        refine z_calli hW (va_runSN (As := [.int (zI (num * (zsh p x i a))), .int (zI p)]) (rest := []) CX.fix (c_mod l (f := va_up f (v + 2) (zA cI 25 co)) (num * (zsh p x i a)) p (by constructor <;> omega) (by constructor <;> omega)) ⟨va_cnB (own := RX10) (host := "CurveMeets") (index := 58) 2 CX.fix.2.2.2.2 ggX10_addNear_X11_mod rfl rfl rfl (CX.2.2.2.2.2.2.2.1 _ (by decide +kernel)) (CX.at (List.mem_of_getElem? (i := 16) rfl)) (by decide +kernel) ⟨Nat.le_of_ble_eq_true rfl, Nat.le_of_ble_eq_true rfl⟩, CX.at (List.mem_of_getElem? (i := 19) rfl), trivial⟩ (z_preS CX hW) rfl rfl hl.1 rfl (lv_room (Nat.le_of_ble_eq_true rfl)) dX10_addNear_27 ⟨Nat.zero_le _, Nat.zero_le _⟩) (fun zv gn H locs hok27 hW => ?_)
        obtain ⟨ez, eg⟩ := hok27
        have eg : gn = va_up f (v + 2) (zA cI 25 co) := eg
        rw [eg] at hW
        clear eg
        have ez : zv = (num * (zsh p x i a)) % p := ez
        rw [ez]
        clear ez
        have hm27 := zmr (num * (zsh p x i a)) (p := p) (by omega)
        refine lv_istore (lv' := [(6, .int (zI ((num * (zsh p x i a)) % p))), (5, .int (zI a)), (0, .ref v), (1, .int (zI num)), (2, .int (zI i)), (3, .int (zI j)), (4, .ref s)]) hX0 hB0 dX10_addNear_30 hl (by decide) rfl (fun ls hl => ?_)
        refine lv_iconst (v := zI 0) hX0 hB0 dX10_addNear_32 rfl ?_
        refine lv_istore (lv' := [(7, .int (zI 0)), (6, .int (zI ((num * (zsh p x i a)) % p))), (5, .int (zI a)), (0, .ref v), (1, .int (zI num)), (2, .int (zI i)), (3, .int (zI j)), (4, .ref s)]) hX0 hB0 dX10_addNear_33 hl (by decide) rfl (fun ls hl => ?_)
        have hL35 : ∀ (fu : Nat) (b : Int) (cc : Nat → Int), (0 ≤ b ∧ (b ≤ j + 1 ∨ b = 0) ∧ cc = zfor (zadn_in p y j a (num * zsh p x i a % p)) 0 co (b - 0).toNat ∧ zcan p cc) → (j + 1 - b).toNat < fu → ∀ (H : Heap) (locs : List Loc) (ls : Array Slot), zW D (zT cI cJ cZ cP cS cM) L (zQ L sz) st (va_up f (v + 2) (zA cI 25 cc)) st.heap H locs → lv_has ls 8 [(7, .int (zI b)), (6, .int (zI ((num * (zsh p x i a)) % p))), (5, .int (zI a)), (0, .ref v), (1, .int (zI num)), (2, .int (zI i)), (3, .int (zI j)), (4, .ref s)] → W pg l en ({ frames := 3, cells := 0, slots := 0, locals := 69 } : Room) st mi ag bl mt cd H locs 0 0 Q (F0 mi 35 ls []) := by
          intro fu
          induction fu with
          | zero => intro b cc _ hfu; exact absurd hfu (Nat.not_lt_zero _)
          | succ fu ih35 =>
            intro b cc hinv35 hfu35 H locs ls hW hl
            obtain ⟨hb0, hb1, hecc, hcc⟩ := hinv35
            refine lv_iload hX0 hB0 dX10_addNear_35 (lv_at hl 0 rfl) ?_
            refine lv_iload_n hX0 hB0 dX10_addNear_37 rfl (lv_at hl 6 rfl) ?_
            refine z_icmp_gt (tgt := 77) CX dX10_addNear_38 (by decide) (by constructor <;> omega) (by constructor <;> omega) (fun c_38 => ?_) (fun c_38 => ?_)
            ·
              refine lv_iinc (v := zI (a + 1)) (lv' := [(5, .int (zI (a + 1))), (7, .int (zI b)), (6, .int (zI ((num * (zsh p x i a)) % p))), (0, .ref v), (1, .int (zI num)), (2, .int (zI i)), (3, .int (zI j)), (4, .ref s)]) hX0 hB0 dX10_addNear_77 hl (k := 2) rfl (zI_add _ _) (by decide) rfl (fun ls hl => ?_)
              refine lv_goto (tgt := 3) hX0 hB0 dX10_addNear_80 (by decide) ?_
              exact ih3 (a + 1) cc ⟨by omega, by omega, by rw [zfor_s _ _ _ ha0, ← heco]; rw [hecc]; show zfor _ 0 co _ = zfor _ 0 co _; congr 1; omega, hcc⟩ (by omega) H locs ls hW (lv_sub hl [0, 3, 4, 5, 6, 7] rfl)
            ·
              refine lv_aload_n hX0 hB0 dX10_addNear_41 rfl (lv_at hl 3 rfl) ?_
              refine z_get (Cn := RX10) (T := TX10) (N := 3) CX hW (v := .ref (v + 1)) ((va_up_ne _ _ (by omega)).trans hv0) rfl (fun w h => List.mem_cons_of_mem _ (List.mem_append_left _ (List.mem_append_right _ h))) 0 (by decide) (List.mem_of_getElem? (i := 3) rfl) rfl rfl dX10_addNear_42 ?_
              refine lv_iload hX0 hB0 dX10_addNear_45 (lv_at hl 2 rfl) ?_
              refine lv_iload hX0 hB0 dX10_addNear_47 (lv_at hl 0 rfl) ?_
              refine lv_iload hX0 hB0 dX10_addNear_49 (lv_at hl 1 rfl) ?_
              refine lv_aload_n hX0 hB0 dX10_addNear_51 rfl (lv_at hl 3 rfl) ?_
              refine lv_aload hX0 hB0 dX10_addNear_52 (lv_at hl 7 rfl) ?_
              refine z_get (Cn := RX9) (T := TX9) (N := 3) CX hW (v := .int (zI y)) ((va_up_ne _ _ (by omega)).trans hs0) rfl (fun w h => List.mem_cons_of_mem _ (List.mem_append_left _ (List.mem_append_left _ (List.mem_append_right _ h)))) 1 (by decide) (List.mem_of_getElem? (i := 4) rfl) rfl rfl dX10_addNear_54 ?_
              refine lv_iload_n hX0 hB0 dX10_addNear_57 rfl (lv_at hl 6 rfl) ?_
              refine lv_iload hX0 hB0 dX10_addNear_58 (lv_at hl 0 rfl) ?_
              refine z_calli hW (va_runV (C := RX10) (As := [.int (zI y), .int (zI j), .int (zI b)]) (rest := [.int (zI ((num * (zsh p x i a)) % p)), .int (zI b), .int (zI a), .ref (v + 1)]) CX.fix (c_shifted l (f := va_up f (v + 2) (zA cI 25 cc)) v p y j b (v + 1) (v + 3) ((va_up_ne _ _ (by omega)).trans hv0) (by constructor <;> omega) (by constructor <;> omega) (by constructor <;> omega) (by constructor <;> omega)) (cwV 3 CX.fix.2.2.2.2 gX10_addNear_X10_shifted rfl rfl rfl (by decide +kernel) ⟨Nat.le_of_ble_eq_true rfl, Nat.le_of_ble_eq_true rfl⟩) (z_preV CX hW (r := (RX10, TX10, 3)) ((va_up_ne _ _ (by omega)).trans hv0) rfl) rfl rfl hl.1 rfl (lv_room (Nat.le_of_ble_eq_true rfl)) dX10_addNear_60 ⟨Nat.zero_le _, Nat.zero_le _⟩) (fun zv gn H locs hok60 hW => ?_)
              obtain ⟨ez, eg⟩ := hok60
              have eg : gn = va_up f (v + 2) (zA cI 25 cc) := eg
              rw [eg] at hW
              clear eg
              have ez : zv = zsh p y j b := ez
              rw [ez]
              clear ez
              have hsh60 := zsh_rng y j b (p := p) (by omega)
              have hle := zmr (num * zsh p x i a) (p := p) (by omega)
              have hmu60 := zmul_rng (a := num * zsh p x i a % p) (b := zsh p y j b) (A := 31) (B := 31) (by omega) (by omega)
              refine z_imul (z := ((num * (zsh p x i a)) % p) * (zsh p y j b)) CX dX10_addNear_63 rfl ?_
              refine lv_aload_n hX0 hB0 dX10_addNear_64 rfl (lv_at hl 3 rfl) ?_
              refine z_get (Cn := RX10) (T := TX10) (N := 3) CX hW (v := .int (zI p)) ((va_up_ne _ _ (by omega)).trans hv0) rfl (fun w h => List.mem_cons_of_mem _ (List.mem_append_left _ (List.mem_append_right _ h))) 2 (by decide) (List.mem_of_getElem? (i := 2) rfl) rfl rfl dX10_addNear_65 ?_
              refine z_callv hW (va_runV (C := RX2) (As := [.int (zI a), .int (zI b), .int (zI (((num * (zsh p x i a)) % p) * (zsh p y j b))), .int (zI p)]) (rest := []) CX.fix (c_increase l (f := va_up f (v + 2) (zA cI 25 cc)) (v + 1) (v + 2) cc a b (((num * (zsh p x i a)) % p) * (zsh p y j b)) p ((va_up_ne _ _ (by omega)).trans hv1) (va_up_self _ _ _) (by assumption) (by constructor <;> omega) (by constructor <;> omega) (by constructor <;> omega) (by constructor <;> omega)) (cwV 4 CX.fix.2.2.2.2 gX10_addNear_X2_increase rfl rfl rfl (by decide +kernel) ⟨Nat.le_of_ble_eq_true rfl, Nat.le_of_ble_eq_true rfl⟩) (z_preV CX hW (r := (RX2, TX2, 1)) ((va_up_ne _ _ (by omega)).trans hv1) rfl) rfl rfl hl.1 rfl (lv_room (Nat.le_of_ble_eq_true rfl)) dX10_addNear_68 ⟨Nat.zero_le _, Nat.zero_le _⟩) (fun gn H locs hok68 hW => ?_)
              have eg : gn = va_up f (v + 2) (zA cI 25 (zput cc a b ((zat cc a b + (((num * (zsh p x i a)) % p) * (zsh p y j b))) % p))) := (hok68).trans va_up_up
              rw [eg] at hW
              clear eg
              refine lv_iinc (v := zI (b + 1)) (lv' := [(7, .int (zI (b + 1))), (6, .int (zI ((num * (zsh p x i a)) % p))), (5, .int (zI a)), (0, .ref v), (1, .int (zI num)), (2, .int (zI i)), (3, .int (zI j)), (4, .ref s)]) hX0 hB0 dX10_addNear_71 hl (k := 0) rfl (zI_add _ _) (by decide) rfl (fun ls hl => ?_)
              refine lv_goto (tgt := 35) hX0 hB0 dX10_addNear_74 (by decide) ?_
              exact ih35 (b + 1) (zput cc a b ((zat cc a b + (((num * (zsh p x i a)) % p) * (zsh p y j b))) % p)) ⟨by omega, by omega, by rw [zfor_s _ _ _ hb0, ← hecc]; rfl, zcan_put hcc _ _ (zmr _ (by omega))⟩ (by omega) H locs ls hW (lv_sub hl [0, 1, 2, 3, 4, 5, 6, 7] rfl)
        exact hL35 _ 0 co ⟨by omega, Or.inr rfl, (zfor_0 _ _ _).symm, hco⟩ (Nat.lt_succ_self _) H locs ls hW (lv_sub hl [0, 1, 2, 3, 4, 5, 6, 7] rfl)
  have hW := hW
  rw [show f = va_up f (v + 2) (zA cI 25 c) from by rw [va_up_id (a := (v + 2)) hv2]] at hW
  exact hL3 _ 0 c ⟨by omega, Or.inr rfl, (zfor_0 _ _ _).symm, hc⟩ (Nat.lt_succ_self _) H locs ls hW (lv_sub hl [0, 1, 2, 3, 4, 5] rfl)
set_option maxRecDepth 100000 in
set_option maxHeartbeats 4000000 in
/-- View.addFar -/
theorem c_addFar (l : Launch) {D : va_G} {cI cJ cZ cP cS cM : ClassId} {L : List Nat} {sz : Nat} {f : Nat → va_E} (v : Nat) (p : Int) (c lw : Nat → Int) (s : Nat) (x y z : Int) (num i j n : Int) (hv0 : f v = .inr (10, [.ref (v + 1), .ref (v + 3), .int (zI p)])) (hv1 : f (v + 1) = .inr (2, [.ref (v + 2)])) (hv2 : f (v + 2) = zA cI 25 c) (hv3 : f (v + 3) = zA cI 5 lw) (hp : 2 ≤ p ∧ p ≤ 31) (hs0 : f s = .inr (9, [.int (zI x), .int (zI y), .int (zI z)])) (hsd : s < v ∨ v + 4 ≤ s) (hx : 0 ≤ x ∧ x ≤ 31) (hy : 0 ≤ y ∧ y ≤ 31) (hc : zcan p c) (hnum : 0 ≤ num ∧ num ≤ 31) (hi : 0 ≤ i ∧ i ≤ 4) (hj : 0 ≤ j ∧ j ≤ 4) (hn : -1000 ≤ n ∧ n ≤ 1000) : zMv l yX10_addFar wsX10_addFar 3 69 D (zT cI cJ cZ cP cS cM) L sz f [.ref v, .int (zI num), .int (zI i), .int (zI j), .int (zI n), .ref s] (fun g => g = va_up f (v + 2) (zA cI 25 (zadf p num x y i j n c))) := by
  refine zWalk.met (nL := 7) (ret := none) (cc := cX10_addFar) (by decide) rfl (Nat.le_of_ble_eq_true rfl) ?_
  intro pg en st mi ag bl mt cd ls CX hW hl
  have CX : zC pg st mi ag mt cd cX10_addFar 7 none RX10 wsX10_addFar := CX
  generalize hQ : MQ bl _ ag st 0 0 _ = Q
  have hX0 := CX.1
  have hB0 := CX.2.1
  have hl : lv_has ls 7 [(0, .ref v), (1, .int (zI num)), (2, .int (zI i)), (3, .int (zI j)), (4, .int (zI n)), (5, .ref s)] := hl
  obtain ⟨H, eH⟩ : ∃ H, H = st.heap := ⟨_, rfl⟩
  obtain ⟨locs, eL⟩ : ∃ L : List Loc, L = [] := ⟨_, rfl⟩
  have hW : zW D (zT cI cJ cZ cP cS cM) L (zQ L sz) st f st.heap H locs := by rw [eH, eL]; exact hW
  suffices hgo : W pg l en ({ frames := 3, cells := 0, slots := 0, locals := 69 } : Room) st mi ag bl mt cd H locs 0 0 Q (F0 mi 0 ls []) by rw [eH, eL] at hgo; exact hgo
  clear eH eL
  refine lv_aload hX0 hB0 dX10_addFar_0 (lv_at hl 5 rfl) ?_
  refine z_get (Cn := RX9) (T := TX9) (N := 3) CX hW (v := .int (zI x)) hs0 rfl (fun w h => List.mem_cons_of_mem _ (List.mem_append_left _ (List.mem_append_left _ (List.mem_append_right _ h)))) 0 (by decide) (List.mem_of_getElem? (i := 1) rfl) rfl rfl dX10_addFar_2 ?_
  refine z_if_ne (tgt := 28) CX dX10_addFar_5 (by decide) (by constructor <;> omega) (fun c_5 => ?_) (fun c_5 => ?_)
  ·
    refine lv_iconst (v := zI 0) hX0 hB0 dX10_addFar_28 rfl ?_
    refine lv_istore (lv' := [(6, .int (zI 0)), (0, .ref v), (1, .int (zI num)), (2, .int (zI i)), (3, .int (zI j)), (4, .int (zI n)), (5, .ref s)]) hX0 hB0 dX10_addFar_29 hl (by decide) rfl (fun ls hl => ?_)
    have hL31 : ∀ (fu : Nat) (b : Int) (cc : Nat → Int), (0 ≤ b ∧ (b ≤ j + 1 ∨ b = 0) ∧ cc = zfor (zadf_in p num y j (n - i - j)) 0 c (b - 0).toNat ∧ zcan p cc) → (j + 1 - b).toNat < fu → ∀ (H : Heap) (locs : List Loc) (ls : Array Slot), zW D (zT cI cJ cZ cP cS cM) L (zQ L sz) st (va_up f (v + 2) (zA cI 25 cc)) st.heap H locs → lv_has ls 7 [(6, .int (zI b)), (0, .ref v), (1, .int (zI num)), (2, .int (zI i)), (3, .int (zI j)), (4, .int (zI n)), (5, .ref s)] → W pg l en ({ frames := 3, cells := 0, slots := 0, locals := 69 } : Room) st mi ag bl mt cd H locs 0 0 Q (F0 mi 31 ls []) := by
      intro fu
      induction fu with
      | zero => intro b cc _ hfu; exact absurd hfu (Nat.not_lt_zero _)
      | succ fu ih31 =>
        intro b cc hinv31 hfu31 H locs ls hW hl
        obtain ⟨hb0, hb1, hecc, hcc⟩ := hinv31
        refine lv_iload hX0 hB0 dX10_addFar_31 (lv_at hl 0 rfl) ?_
        refine lv_iload_n hX0 hB0 dX10_addFar_33 rfl (lv_at hl 4 rfl) ?_
        refine z_icmp_gt (tgt := 76) CX dX10_addFar_34 (by decide) (by constructor <;> omega) (by constructor <;> omega) (fun c_34 => ?_) (fun c_34 => ?_)
        ·
          rw [← hQ]
          exact z_vret CX hW (by unfold zadf; rw [if_neg (by omega), hecc, show (b - 0).toNat = (j + 1 - 0).toNat by omega]) dX10_addFar_76
        ·
          refine lv_aload_n hX0 hB0 dX10_addFar_37 rfl (lv_at hl 1 rfl) ?_
          refine z_get (Cn := RX10) (T := TX10) (N := 3) CX hW (v := .ref (v + 1)) ((va_up_ne _ _ (by omega)).trans hv0) rfl (fun w h => List.mem_cons_of_mem _ (List.mem_append_left _ (List.mem_append_right _ h))) 0 (by decide) (List.mem_of_getElem? (i := 2) rfl) rfl rfl dX10_addFar_38 ?_
          refine lv_iload hX0 hB0 dX10_addFar_41 (lv_at hl 0 rfl) ?_
          refine lv_iload hX0 hB0 dX10_addFar_43 (lv_at hl 5 rfl) ?_
          refine lv_iload_n hX0 hB0 dX10_addFar_45 rfl (lv_at hl 3 rfl) ?_
          refine z_isub (z := n - i) CX dX10_addFar_46 rfl ?_
          refine lv_iload_n hX0 hB0 dX10_addFar_47 rfl (lv_at hl 4 rfl) ?_
          refine z_isub (z := (n - i) - j) CX dX10_addFar_48 rfl ?_
          refine lv_iload_n hX0 hB0 dX10_addFar_49 rfl (lv_at hl 2 rfl) ?_
          refine lv_aload_n hX0 hB0 dX10_addFar_50 rfl (lv_at hl 1 rfl) ?_
          refine lv_aload hX0 hB0 dX10_addFar_51 (lv_at hl 6 rfl) ?_
          refine z_get (Cn := RX9) (T := TX9) (N := 3) CX hW (v := .int (zI y)) ((va_up_ne _ _ (by omega)).trans hs0) rfl (fun w h => List.mem_cons_of_mem _ (List.mem_append_left _ (List.mem_append_left _ (List.mem_append_right _ h)))) 1 (by decide) (List.mem_of_getElem? (i := 4) rfl) rfl rfl dX10_addFar_53 ?_
          refine lv_iload_n hX0 hB0 dX10_addFar_56 rfl (lv_at hl 4 rfl) ?_
          refine lv_iload hX0 hB0 dX10_addFar_57 (lv_at hl 0 rfl) ?_
          refine z_calli hW (va_runV (C := RX10) (As := [.int (zI y), .int (zI j), .int (zI b)]) (rest := [.int (zI num), .int (zI ((n - i) - j)), .int (zI b), .ref (v + 1)]) CX.fix (c_shifted l (f := va_up f (v + 2) (zA cI 25 cc)) v p y j b (v + 1) (v + 3) ((va_up_ne _ _ (by omega)).trans hv0) (by constructor <;> omega) (by constructor <;> omega) (by constructor <;> omega) (by constructor <;> omega)) (cwV 3 CX.fix.2.2.2.2 gX10_addFar_X10_shifted rfl rfl rfl (by decide +kernel) ⟨Nat.le_of_ble_eq_true rfl, Nat.le_of_ble_eq_true rfl⟩) (z_preV CX hW (r := (RX10, TX10, 3)) ((va_up_ne _ _ (by omega)).trans hv0) rfl) rfl rfl hl.1 rfl (lv_room (Nat.le_of_ble_eq_true rfl)) dX10_addFar_59 ⟨Nat.zero_le _, Nat.zero_le _⟩) (fun zv gn H locs hok59 hW => ?_)
          obtain ⟨ez, eg⟩ := hok59
          have eg : gn = va_up f (v + 2) (zA cI 25 cc) := eg
          rw [eg] at hW
          clear eg
          have ez : zv = zsh p y j b := ez
          rw [ez]
          clear ez
          have hsh59 := zsh_rng y j b (p := p) (by omega)
          have hmu59 := zmul_rng (a := num) (b := zsh p y j b) (A := 31) (B := 31) (by omega) (by omega)
          refine z_imul (z := num * (zsh p y j b)) CX dX10_addFar_62 rfl ?_
          refine lv_aload_n hX0 hB0 dX10_addFar_63 rfl (lv_at hl 1 rfl) ?_
          refine z_get (Cn := RX10) (T := TX10) (N := 3) CX hW (v := .int (zI p)) ((va_up_ne _ _ (by omega)).trans hv0) rfl (fun w h => List.mem_cons_of_mem _ (List.mem_append_left _ (List.mem_append_right _ h))) 2 (by decide) (List.mem_of_getElem? (i := 3) rfl) rfl rfl dX10_addFar_64 ?_
          refine z_callv hW (va_runV (C := RX2) (As := [.int (zI b), .int (zI ((n - i) - j)), .int (zI (num * (zsh p y j b))), .int (zI p)]) (rest := []) CX.fix (c_increase l (f := va_up f (v + 2) (zA cI 25 cc)) (v + 1) (v + 2) cc b ((n - i) - j) (num * (zsh p y j b)) p ((va_up_ne _ _ (by omega)).trans hv1) (va_up_self _ _ _) (by assumption) (by constructor <;> omega) (by constructor <;> omega) (by constructor <;> omega) (by constructor <;> omega)) (cwV 4 CX.fix.2.2.2.2 gX10_addFar_X2_increase rfl rfl rfl (by decide +kernel) ⟨Nat.le_of_ble_eq_true rfl, Nat.le_of_ble_eq_true rfl⟩) (z_preV CX hW (r := (RX2, TX2, 1)) ((va_up_ne _ _ (by omega)).trans hv1) rfl) rfl rfl hl.1 rfl (lv_room (Nat.le_of_ble_eq_true rfl)) dX10_addFar_67 ⟨Nat.zero_le _, Nat.zero_le _⟩) (fun gn H locs hok67 hW => ?_)
          have eg : gn = va_up f (v + 2) (zA cI 25 (zput cc b ((n - i) - j) ((zat cc b ((n - i) - j) + (num * (zsh p y j b))) % p))) := (hok67).trans va_up_up
          rw [eg] at hW
          clear eg
          refine lv_iinc (v := zI (b + 1)) (lv' := [(6, .int (zI (b + 1))), (0, .ref v), (1, .int (zI num)), (2, .int (zI i)), (3, .int (zI j)), (4, .int (zI n)), (5, .ref s)]) hX0 hB0 dX10_addFar_70 hl (k := 0) rfl (zI_add _ _) (by decide) rfl (fun ls hl => ?_)
          refine lv_goto (tgt := 31) hX0 hB0 dX10_addFar_73 (by decide) ?_
          exact ih31 (b + 1) (zput cc b ((n - i) - j) ((zat cc b ((n - i) - j) + (num * (zsh p y j b))) % p)) ⟨by omega, by omega, by rw [zfor_s _ _ _ hb0, ← hecc]; rfl, zcan_put hcc _ _ (zmr _ (by omega))⟩ (by omega) H locs ls hW (lv_sub hl [0, 1, 2, 3, 4, 5, 6] rfl)
    have hW := hW
    rw [show f = va_up f (v + 2) (zA cI 25 c) from by rw [va_up_id (a := (v + 2)) hv2]] at hW
    exact hL31 _ 0 c ⟨by omega, Or.inr rfl, (zfor_0 _ _ _).symm, hc⟩ (Nat.lt_succ_self _) H locs ls hW (lv_sub hl [0, 1, 2, 3, 4, 5, 6] rfl)
  ·
    refine lv_aload_n hX0 hB0 dX10_addFar_8 rfl (lv_at hl 0 rfl) ?_
    refine z_get (Cn := RX10) (T := TX10) (N := 3) CX hW (v := .ref (v + 1)) hv0 rfl (fun w h => List.mem_cons_of_mem _ (List.mem_append_left _ (List.mem_append_right _ h))) 0 (by decide) (List.mem_of_getElem? (i := 2) rfl) rfl rfl dX10_addFar_9 ?_
    refine lv_iload_n hX0 hB0 dX10_addFar_12 rfl (lv_at hl 2 rfl) ?_
    refine lv_iload hX0 hB0 dX10_addFar_13 (lv_at hl 4 rfl) ?_
    refine lv_iload_n hX0 hB0 dX10_addFar_15 rfl (lv_at hl 2 rfl) ?_
    refine z_isub (z := n - i) CX dX10_addFar_16 rfl ?_
    refine lv_iload_n hX0 hB0 dX10_addFar_17 rfl (lv_at hl 3 rfl) ?_
    refine z_isub (z := (n - i) - j) CX dX10_addFar_18 rfl ?_
    refine lv_iload_n hX0 hB0 dX10_addFar_19 rfl (lv_at hl 1 rfl) ?_
    refine lv_aload_n hX0 hB0 dX10_addFar_20 rfl (lv_at hl 0 rfl) ?_
    refine z_get (Cn := RX10) (T := TX10) (N := 3) CX hW (v := .int (zI p)) hv0 rfl (fun w h => List.mem_cons_of_mem _ (List.mem_append_left _ (List.mem_append_right _ h))) 2 (by decide) (List.mem_of_getElem? (i := 3) rfl) rfl rfl dX10_addFar_21 ?_
    refine z_callv hW (va_runV (C := RX2) (As := [.int (zI i), .int (zI ((n - i) - j)), .int (zI num), .int (zI p)]) (rest := []) CX.fix (c_increase l (f := f) (v + 1) (v + 2) c i ((n - i) - j) num p hv1 hv2 (by assumption) (by constructor <;> omega) (by constructor <;> omega) (by constructor <;> omega) (by constructor <;> omega)) (cwV 4 CX.fix.2.2.2.2 gX10_addFar_X2_increase rfl rfl rfl (by decide +kernel) ⟨Nat.le_of_ble_eq_true rfl, Nat.le_of_ble_eq_true rfl⟩) (z_preV CX hW (r := (RX2, TX2, 1)) hv1 rfl) rfl rfl hl.1 rfl (lv_room (Nat.le_of_ble_eq_true rfl)) dX10_addFar_24 ⟨Nat.zero_le _, Nat.zero_le _⟩) (fun gn H locs hok24 hW => ?_)
    have eg : gn = va_up f (v + 2) (zA cI 25 (zput c i ((n - i) - j) ((zat c i ((n - i) - j) + num) % p))) := hok24
    rw [eg] at hW
    clear eg
    rw [← hQ]
    exact z_vret CX hW (by unfold zadf; rw [if_pos c_5]) dX10_addFar_27
set_option maxRecDepth 100000 in
set_option maxHeartbeats 4000000 in
/-- View.look -/
theorem c_look (l : Launch) {D : va_G} {cI cJ cZ cP cS cM : ClassId} {L : List Nat} {sz : Nat} {f : Nat → va_E} (v : Nat) (p0 : Int) (c lw : Nat → Int) (s : Nat) (x y z : Int) (h0 h : Nat) (d : Nat → Int) (p : Int) (hv0 : f v = .inr (10, [.ref (v + 1), .ref (v + 3), .int (zI p0)])) (hv1 : f (v + 1) = .inr (2, [.ref (v + 2)])) (hv2 : f (v + 2) = zA cI 25 c) (hv3 : f (v + 3) = zA cI 5 lw) (hp : 2 ≤ p ∧ p ≤ 31) (hs0 : f s = .inr (9, [.int (zI x), .int (zI y), .int (zI z)])) (hsd : s < v ∨ v + 4 ≤ s) (hx : 0 ≤ x ∧ x ≤ 31) (hy : 0 ≤ y ∧ y ≤ 31) (hz : 0 ≤ z ∧ z ≤ 1) (hf0 : f h0 = .inr (2, [.ref h])) (hf1 : f h = zA cI 25 d) (hd : zcan p d) (hh0 : h0 < v ∨ v + 4 ≤ h0) (hh : h < v ∨ v + 4 ≤ h) : zMv l yX10_look wsX10_look 4 96 D (zT cI cJ cZ cP cS cM) L sz f [.ref v, .ref h0, .ref s, .int (zI p)] (fun g => g = va_up (va_up f v (.inr (10, [.ref (v + 1), .ref (v + 3), .int (zI p)]))) (v + 2) (zA cI 25 (zlook d p x y z))) := by
  refine zWalk.met (nL := 8) (ret := none) (cc := cX10_look) (by decide) rfl (Nat.le_of_ble_eq_true rfl) ?_
  intro pg en st mi ag bl mt cd ls CX hW hl
  have CX : zC pg st mi ag mt cd cX10_look 8 none RX10 wsX10_look := CX
  generalize hQ : MQ bl _ ag st 0 0 _ = Q
  have hX0 := CX.1
  have hB0 := CX.2.1
  have hl : lv_has ls 8 [(0, .ref v), (1, .ref h0), (2, .ref s), (3, .int (zI p))] := hl
  obtain ⟨H, eH⟩ : ∃ H, H = st.heap := ⟨_, rfl⟩
  obtain ⟨locs, eL⟩ : ∃ L : List Loc, L = [] := ⟨_, rfl⟩
  have hW : zW D (zT cI cJ cZ cP cS cM) L (zQ L sz) st f st.heap H locs := by rw [eH, eL]; exact hW
  suffices hgo : W pg l en ({ frames := 4, cells := 0, slots := 0, locals := 96 } : Room) st mi ag bl mt cd H locs 0 0 Q (F0 mi 0 ls []) by rw [eH, eL] at hgo; exact hgo
  clear eH eL
  refine lv_aload_n hX0 hB0 dX10_look_0 rfl (lv_at hl 0 rfl) ?_
  refine lv_iload_n hX0 hB0 dX10_look_1 rfl (lv_at hl 3 rfl) ?_
  refine z_put (Cn := RX10) (T := TX10) (N := 3) CX hW (v := .int (zI p)) hv0 rfl (fun w h => List.mem_cons_of_mem _ (List.mem_append_left _ (List.mem_append_left _ (List.mem_append_right _ h)))) tyX10 tyX10_ok nmX10 2 (by decide) (List.mem_of_getElem? (i := 1) rfl) rfl rfl rfl rfl (Nat.le_of_ble_eq_true rfl) (g := va_up f v (.inr (10, [.ref (v + 1), .ref (v + 3), .int (zI p)]))) rfl dX10_look_2 (fun H locs hW => ?_)
  refine lv_aload_n hX0 hB0 dX10_look_5 rfl (lv_at hl 0 rfl) ?_
  refine z_get (Cn := RX10) (T := TX10) (N := 3) CX hW (v := .ref (v + 1)) (va_up_self _ _ _) rfl (fun w h => List.mem_cons_of_mem _ (List.mem_append_left _ (List.mem_append_left _ (List.mem_append_right _ h)))) 0 (by decide) (List.mem_of_getElem? (i := 2) rfl) rfl rfl dX10_look_6 ?_
  refine lv_iconst (v := zI 0) hX0 hB0 dX10_look_9 rfl ?_
  refine z_callv hW (va_runV (C := RX2) (As := [.int (zI 0)]) (rest := []) CX.fix (c_setTo l (f := va_up f v (.inr (10, [.ref (v + 1), .ref (v + 3), .int (zI p)]))) (v + 1) (v + 2) c 0 ((va_up_ne _ _ (by omega)).trans hv1) ((va_up_ne _ _ (by omega)).trans hv2)) (cwV 1 CX.fix.2.2.2.2 gX10_look_X2_setTo rfl rfl rfl (by decide +kernel) ⟨Nat.le_of_ble_eq_true rfl, Nat.le_of_ble_eq_true rfl⟩) (z_preV CX hW (r := (RX2, TX2, 1)) ((va_up_ne _ _ (by omega)).trans hv1) rfl) rfl rfl hl.1 rfl (lv_room (Nat.le_of_ble_eq_true rfl)) dX10_look_10 ⟨Nat.zero_le _, Nat.zero_le _⟩) (fun gn H locs hok10 hW => ?_)
  have eg : gn = va_up (va_up f v (.inr (10, [.ref (v + 1), .ref (v + 3), .int (zI p)]))) (v + 2) (zA cI 25 (zone 0)) := hok10
  rw [eg] at hW
  clear eg
  refine lv_aload_n hX0 hB0 dX10_look_13 rfl (lv_at hl 1 rfl) ?_
  refine z_calli hW (va_runV (C := RX2) (As := []) (rest := []) CX.fix (c_top l (f := va_up (va_up f v (.inr (10, [.ref (v + 1), .ref (v + 3), .int (zI p)]))) (v + 2) (zA cI 25 (zone 0))) h0 h d ((va_up_ne _ _ (by omega)).trans ((va_up_ne _ _ (by omega)).trans hf0)) ((va_up_ne _ _ (by omega)).trans ((va_up_ne _ _ (by omega)).trans hf1)) (by exact zcan_le hd (by omega))) (cwV 0 CX.fix.2.2.2.2 gX10_look_X2_top rfl rfl rfl (by decide +kernel) ⟨Nat.le_of_ble_eq_true rfl, Nat.le_of_ble_eq_true rfl⟩) (z_preV CX hW (r := (RX2, TX2, 1)) ((va_up_ne _ _ (by omega)).trans ((va_up_ne _ _ (by omega)).trans hf0)) rfl) rfl rfl hl.1 rfl (lv_room (Nat.le_of_ble_eq_true rfl)) dX10_look_14 ⟨Nat.zero_le _, Nat.zero_le _⟩) (fun zv gn H locs hok14 hW => ?_)
  obtain ⟨ez, eg⟩ := hok14
  have eg : gn = va_up (va_up f v (.inr (10, [.ref (v + 1), .ref (v + 3), .int (zI p)]))) (v + 2) (zA cI 25 (zone 0)) := eg
  rw [eg] at hW
  clear eg
  have ez : zv = ztop d := ez
  rw [ez]
  clear ez
  have htp14 := ztop_rng d
  have htd := ztop_rng d
  refine lv_istore (lv' := [(4, .int (zI (ztop d))), (0, .ref v), (1, .ref h0), (2, .ref s), (3, .int (zI p))]) hX0 hB0 dX10_look_17 hl (by decide) rfl (fun ls hl => ?_)
  refine lv_iconst (v := zI 0) hX0 hB0 dX10_look_19 rfl ?_
  refine lv_istore (lv' := [(5, .int (zI 0)), (4, .int (zI (ztop d))), (0, .ref v), (1, .ref h0), (2, .ref s), (3, .int (zI p))]) hX0 hB0 dX10_look_20 hl (by decide) rfl (fun ls hl => ?_)
  have hL22 : ∀ (fu : Nat) (i : Int) (co : Nat → Int), (0 ≤ i ∧ (i ≤ 5 ∨ i = 0) ∧ co = zfor (zlook_out d p x y z (ztop d)) 0 (zone 0) (i - 0).toNat ∧ zcan p co) → (5 - i).toNat < fu → ∀ (H : Heap) (locs : List Loc) (ls : Array Slot), zW D (zT cI cJ cZ cP cS cM) L (zQ L sz) st (va_up (va_up f v (.inr (10, [.ref (v + 1), .ref (v + 3), .int (zI p)]))) (v + 2) (zA cI 25 co)) st.heap H locs → lv_has ls 8 [(5, .int (zI i)), (4, .int (zI (ztop d))), (0, .ref v), (1, .ref h0), (2, .ref s), (3, .int (zI p))] → W pg l en ({ frames := 4, cells := 0, slots := 0, locals := 96 } : Room) st mi ag bl mt cd H locs 0 0 Q (F0 mi 22 ls []) := by
    intro fu
    induction fu with
    | zero => intro i co _ hfu; exact absurd hfu (Nat.not_lt_zero _)
    | succ fu ih22 =>
      intro i co hinv22 hfu22 H locs ls hW hl
      obtain ⟨hi0, hi1, heco, hco⟩ := hinv22
      refine lv_iload hX0 hB0 dX10_look_22 (lv_at hl 0 rfl) ?_
      refine lv_iconst (v := zI 4) hX0 hB0 dX10_look_24 rfl ?_
      refine z_icmp_gt (tgt := 105) CX dX10_look_25 (by decide) (by constructor <;> omega) (by constructor <;> omega) (fun c_25 => ?_) (fun c_25 => ?_)
      ·
        rw [← hQ]
        exact z_vret CX hW (by rw [heco, show (i - 0).toNat = (5 - 0 : Int).toNat by omega]; rfl) dX10_look_105
      ·
        refine lv_iconst (v := zI 0) hX0 hB0 dX10_look_28 rfl ?_
        refine lv_istore (lv' := [(6, .int (zI 0)), (5, .int (zI i)), (4, .int (zI (ztop d))), (0, .ref v), (1, .ref h0), (2, .ref s), (3, .int (zI p))]) hX0 hB0 dX10_look_29 hl (by decide) rfl (fun ls hl => ?_)
        have hL31 : ∀ (fu : Nat) (j : Int) (cc : Nat → Int), (0 ≤ j ∧ (j ≤ 4 - i + 1 ∨ j = 0) ∧ cc = zfor (zlook_in d p x y z (ztop d) i) 0 co (j - 0).toNat ∧ zcan p cc) → (4 - i + 1 - j).toNat < fu → ∀ (H : Heap) (locs : List Loc) (ls : Array Slot), zW D (zT cI cJ cZ cP cS cM) L (zQ L sz) st (va_up (va_up f v (.inr (10, [.ref (v + 1), .ref (v + 3), .int (zI p)]))) (v + 2) (zA cI 25 cc)) st.heap H locs → lv_has ls 8 [(6, .int (zI j)), (5, .int (zI i)), (4, .int (zI (ztop d))), (0, .ref v), (1, .ref h0), (2, .ref s), (3, .int (zI p))] → W pg l en ({ frames := 4, cells := 0, slots := 0, locals := 96 } : Room) st mi ag bl mt cd H locs 0 0 Q (F0 mi 31 ls []) := by
          intro fu
          induction fu with
          | zero => intro j cc _ hfu; exact absurd hfu (Nat.not_lt_zero _)
          | succ fu ih31 =>
            intro j cc hinv31 hfu31 H locs ls hW hl
            obtain ⟨hj0, hj1, hecc, hcc⟩ := hinv31
            refine lv_iload hX0 hB0 dX10_look_31 (lv_at hl 0 rfl) ?_
            refine lv_iconst (v := zI 4) hX0 hB0 dX10_look_33 rfl ?_
            refine lv_iload hX0 hB0 dX10_look_34 (lv_at hl 1 rfl) ?_
            refine z_isub (z := 4 - i) CX dX10_look_36 rfl ?_
            refine z_icmp_gt (tgt := 99) CX dX10_look_37 (by decide) (by constructor <;> omega) (by constructor <;> omega) (fun c_37 => ?_) (fun c_37 => ?_)
            ·
              refine lv_iinc (v := zI (i + 1)) (lv' := [(5, .int (zI (i + 1))), (6, .int (zI j)), (4, .int (zI (ztop d))), (0, .ref v), (1, .ref h0), (2, .ref s), (3, .int (zI p))]) hX0 hB0 dX10_look_99 hl (k := 1) rfl (zI_add _ _) (by decide) rfl (fun ls hl => ?_)
              refine lv_goto (tgt := 22) hX0 hB0 dX10_look_102 (by decide) ?_
              exact ih22 (i + 1) cc ⟨by omega, by omega, by rw [zfor_s _ _ _ hi0, ← heco]; rw [hecc]; show zfor _ 0 co _ = zfor _ 0 co _; congr 1; omega, hcc⟩ (by omega) H locs ls hW (lv_sub hl [0, 2, 3, 4, 5, 6] rfl)
            ·
              refine lv_aload_n hX0 hB0 dX10_look_40 rfl (lv_at hl 4 rfl) ?_
              refine lv_iload hX0 hB0 dX10_look_41 (lv_at hl 1 rfl) ?_
              refine lv_iload hX0 hB0 dX10_look_43 (lv_at hl 0 rfl) ?_
              refine z_calli hW (va_runV (C := RX2) (As := [.int (zI i), .int (zI j)]) (rest := []) CX.fix (c_at l (f := va_up (va_up f v (.inr (10, [.ref (v + 1), .ref (v + 3), .int (zI p)]))) (v + 2) (zA cI 25 cc)) h0 h d i j ((va_up_ne _ _ (by omega)).trans ((va_up_ne _ _ (by omega)).trans hf0)) ((va_up_ne _ _ (by omega)).trans ((va_up_ne _ _ (by omega)).trans hf1)) (by constructor <;> omega) (by constructor <;> omega)) (cwV 2 CX.fix.2.2.2.2 gX10_look_X2_at rfl rfl rfl (by decide +kernel) ⟨Nat.le_of_ble_eq_true rfl, Nat.le_of_ble_eq_true rfl⟩) (z_preV CX hW (r := (RX2, TX2, 1)) ((va_up_ne _ _ (by omega)).trans ((va_up_ne _ _ (by omega)).trans hf0)) rfl) rfl rfl hl.1 rfl (lv_room (Nat.le_of_ble_eq_true rfl)) dX10_look_45 ⟨Nat.zero_le _, Nat.zero_le _⟩) (fun zv gn H locs hok45 hW => ?_)
              obtain ⟨ez, eg⟩ := hok45
              have eg : gn = va_up (va_up f v (.inr (10, [.ref (v + 1), .ref (v + 3), .int (zI p)]))) (v + 2) (zA cI 25 cc) := eg
              rw [eg] at hW
              clear eg
              have ez : zv = zat d i j := ez
              rw [ez]
              clear ez
              have hat := zat_can (p := p) (by omega) hd i j
              refine lv_istore (lv' := [(7, .int (zI (zat d i j))), (6, .int (zI j)), (5, .int (zI i)), (4, .int (zI (ztop d))), (0, .ref v), (1, .ref h0), (2, .ref s), (3, .int (zI p))]) hX0 hB0 dX10_look_48 hl (by decide) rfl (fun ls hl => ?_)
              refine lv_iload hX0 hB0 dX10_look_50 (lv_at hl 0 rfl) ?_
              refine z_if_ne (tgt := 58) CX dX10_look_52 (by decide) (by constructor <;> omega) (fun c_52 => ?_) (fun c_52 => ?_)
              ·
                refine lv_aload_n hX0 hB0 dX10_look_58 rfl (lv_at hl 6 rfl) ?_
                refine z_get (Cn := RX9) (T := TX9) (N := 3) CX hW (v := .int (zI z)) ((va_up_ne _ _ (by omega)).trans ((va_up_ne _ _ (by omega)).trans hs0)) rfl (fun w h => List.mem_cons_of_mem _ (List.mem_append_left _ (List.mem_append_right _ h))) 2 (by decide) (List.mem_of_getElem? (i := 3) rfl) rfl rfl dX10_look_59 ?_
                refine lv_iconst (v := zI 1) hX0 hB0 dX10_look_62 rfl ?_
                refine z_icmp_ne (tgt := 80) CX dX10_look_63 (by decide) (by constructor <;> omega) (by constructor <;> omega) (fun c_63 => ?_) (fun c_63 => ?_)
                ·
                  refine lv_aload_n hX0 hB0 dX10_look_80 rfl (lv_at hl 4 rfl) ?_
                  refine lv_iload hX0 hB0 dX10_look_81 (lv_at hl 0 rfl) ?_
                  refine lv_iload hX0 hB0 dX10_look_83 (lv_at hl 2 rfl) ?_
                  refine lv_iload hX0 hB0 dX10_look_85 (lv_at hl 1 rfl) ?_
                  refine lv_iload hX0 hB0 dX10_look_87 (lv_at hl 3 rfl) ?_
                  refine lv_aload_n hX0 hB0 dX10_look_89 rfl (lv_at hl 6 rfl) ?_
                  refine z_callv hW (va_runV (C := RX10) (As := [.int (zI (zat d i j)), .int (zI i), .int (zI j), .int (zI (ztop d)), .ref s]) (rest := []) CX.fix (c_addFar l (f := va_up (va_up f v (.inr (10, [.ref (v + 1), .ref (v + 3), .int (zI p)]))) (v + 2) (zA cI 25 cc)) v p cc lw s x y z (zat d i j) i j (ztop d) ((va_up_ne _ _ (by omega)).trans (va_up_self _ _ _)) ((va_up_ne _ _ (by omega)).trans ((va_up_ne _ _ (by omega)).trans hv1)) (va_up_self _ _ _) ((va_up_ne _ _ (by omega)).trans ((va_up_ne _ _ (by omega)).trans hv3)) (by omega) ((va_up_ne _ _ (by omega)).trans ((va_up_ne _ _ (by omega)).trans hs0)) (by omega) (by omega) (by omega) (by assumption) (by omega) (by omega) (by omega) (by omega)) (cwV 5 CX.fix.2.2.2.2 gX10_look_X10_addFar rfl rfl rfl (by decide +kernel) ⟨Nat.le_of_ble_eq_true rfl, Nat.le_of_ble_eq_true rfl⟩) (z_preV CX hW (r := (RX10, TX10, 3)) ((va_up_ne _ _ (by omega)).trans (va_up_self _ _ _)) rfl) rfl rfl hl.1 rfl (lv_room (Nat.le_of_ble_eq_true rfl)) dX10_look_90 ⟨Nat.zero_le _, Nat.zero_le _⟩) (fun gn H locs hok90 hW => ?_)
                  have eg : gn = va_up (va_up f v (.inr (10, [.ref (v + 1), .ref (v + 3), .int (zI p)]))) (v + 2) (zA cI 25 (zadf p (zat d i j) x y i j (ztop d) cc)) := (hok90).trans va_up_up
                  rw [eg] at hW
                  clear eg
                  refine lv_iinc (v := zI (j + 1)) (lv' := [(6, .int (zI (j + 1))), (7, .int (zI (zat d i j))), (5, .int (zI i)), (4, .int (zI (ztop d))), (0, .ref v), (1, .ref h0), (2, .ref s), (3, .int (zI p))]) hX0 hB0 dX10_look_93 hl (k := 1) rfl (zI_add _ _) (by decide) rfl (fun ls hl => ?_)
                  refine lv_goto (tgt := 31) hX0 hB0 dX10_look_96 (by decide) ?_
                  exact ih31 (j + 1) (zadf p (zat d i j) x y i j (ztop d) cc) ⟨by omega, by omega, by rw [zfor_s _ _ _ hj0, ← hecc]; unfold zlook_in; first | rw [if_pos (by omega)] | (rw [if_neg c_52, if_pos c_63]) | (rw [if_neg c_52, if_neg (by omega)]), by first | exact hcc | exact zadn_can (by omega) hcc | exact zadf_can (by omega) hcc⟩ (by omega) H locs ls hW (lv_sub hl [0, 2, 3, 4, 5, 6, 7] rfl)
                ·
                  refine lv_aload_n hX0 hB0 dX10_look_66 rfl (lv_at hl 4 rfl) ?_
                  refine lv_iload hX0 hB0 dX10_look_67 (lv_at hl 0 rfl) ?_
                  refine lv_iload hX0 hB0 dX10_look_69 (lv_at hl 2 rfl) ?_
                  refine lv_iload hX0 hB0 dX10_look_71 (lv_at hl 1 rfl) ?_
                  refine lv_aload_n hX0 hB0 dX10_look_73 rfl (lv_at hl 6 rfl) ?_
                  refine z_callv hW (va_runV (C := RX10) (As := [.int (zI (zat d i j)), .int (zI i), .int (zI j), .ref s]) (rest := []) CX.fix (c_addNear l (f := va_up (va_up f v (.inr (10, [.ref (v + 1), .ref (v + 3), .int (zI p)]))) (v + 2) (zA cI 25 cc)) v p cc lw s x y z (zat d i j) i j ((va_up_ne _ _ (by omega)).trans (va_up_self _ _ _)) ((va_up_ne _ _ (by omega)).trans ((va_up_ne _ _ (by omega)).trans hv1)) (va_up_self _ _ _) ((va_up_ne _ _ (by omega)).trans ((va_up_ne _ _ (by omega)).trans hv3)) (by omega) ((va_up_ne _ _ (by omega)).trans ((va_up_ne _ _ (by omega)).trans hs0)) (by omega) (by omega) (by omega) (by assumption) (by omega) (by omega) (by omega)) (cwV 4 CX.fix.2.2.2.2 gX10_look_X10_addNear rfl rfl rfl (by decide +kernel) ⟨Nat.le_of_ble_eq_true rfl, Nat.le_of_ble_eq_true rfl⟩) (z_preV CX hW (r := (RX10, TX10, 3)) ((va_up_ne _ _ (by omega)).trans (va_up_self _ _ _)) rfl) rfl rfl hl.1 rfl (lv_room (Nat.le_of_ble_eq_true rfl)) dX10_look_74 ⟨Nat.zero_le _, Nat.zero_le _⟩) (fun gn H locs hok74 hW => ?_)
                  have eg : gn = va_up (va_up f v (.inr (10, [.ref (v + 1), .ref (v + 3), .int (zI p)]))) (v + 2) (zA cI 25 (zadn p (zat d i j) x y i j cc)) := (hok74).trans va_up_up
                  rw [eg] at hW
                  clear eg
                  refine lv_goto (tgt := 93) hX0 hB0 dX10_look_77 (by decide) ?_
                  refine lv_iinc (v := zI (j + 1)) (lv' := [(6, .int (zI (j + 1))), (7, .int (zI (zat d i j))), (5, .int (zI i)), (4, .int (zI (ztop d))), (0, .ref v), (1, .ref h0), (2, .ref s), (3, .int (zI p))]) hX0 hB0 dX10_look_93 hl (k := 1) rfl (zI_add _ _) (by decide) rfl (fun ls hl => ?_)
                  refine lv_goto (tgt := 31) hX0 hB0 dX10_look_96 (by decide) ?_
                  exact ih31 (j + 1) (zadn p (zat d i j) x y i j cc) ⟨by omega, by omega, by rw [zfor_s _ _ _ hj0, ← hecc]; unfold zlook_in; first | rw [if_pos (by omega)] | (rw [if_neg c_52, if_pos c_63]) | (rw [if_neg c_52, if_neg (by omega)]), by first | exact hcc | exact zadn_can (by omega) hcc | exact zadf_can (by omega) hcc⟩ (by omega) H locs ls hW (lv_sub hl [0, 2, 3, 4, 5, 6, 7] rfl)
              ·
                refine lv_goto (tgt := 93) hX0 hB0 dX10_look_55 (by decide) ?_
                refine lv_iinc (v := zI (j + 1)) (lv' := [(6, .int (zI (j + 1))), (7, .int (zI (zat d i j))), (5, .int (zI i)), (4, .int (zI (ztop d))), (0, .ref v), (1, .ref h0), (2, .ref s), (3, .int (zI p))]) hX0 hB0 dX10_look_93 hl (k := 1) rfl (zI_add _ _) (by decide) rfl (fun ls hl => ?_)
                refine lv_goto (tgt := 31) hX0 hB0 dX10_look_96 (by decide) ?_
                exact ih31 (j + 1) cc ⟨by omega, by omega, by rw [zfor_s _ _ _ hj0, ← hecc]; unfold zlook_in; first | rw [if_pos (by omega)] | (rw [if_neg c_52, if_pos c_63]) | (rw [if_neg c_52, if_neg (by omega)]), by first | exact hcc | exact zadn_can (by omega) hcc | exact zadf_can (by omega) hcc⟩ (by omega) H locs ls hW (lv_sub hl [0, 2, 3, 4, 5, 6, 7] rfl)
        exact hL31 _ 0 co ⟨by omega, Or.inr rfl, (zfor_0 _ _ _).symm, hco⟩ (Nat.lt_succ_self _) H locs ls hW (lv_sub hl [0, 1, 2, 3, 4, 5, 6] rfl)
  exact hL22 _ 0 (zone 0) ⟨by omega, Or.inr rfl, (zfor_0 _ _ _).symm, zone_can (by omega) (by omega)⟩ (Nat.lt_succ_self _) H locs ls hW (lv_sub hl [0, 1, 2, 3, 4, 5] rfl)
set_option maxRecDepth 100000 in
set_option maxHeartbeats 4000000 in
/-- View.least -/
theorem c_least (l : Launch) {D : va_G} {cI cJ cZ cP cS cM : ClassId} {L : List Nat} {sz : Nat} {f : Nat → va_E} (v : Nat) (p : Int) (c lw : Nat → Int) (hv0 : f v = .inr (10, [.ref (v + 1), .ref (v + 3), .int (zI p)])) (hv1 : f (v + 1) = .inr (2, [.ref (v + 2)])) (hv2 : f (v + 2) = zA cI 25 c) (hv3 : f (v + 3) = zA cI 5 lw) (hp : 2 ≤ p ∧ p ≤ 31) (hc : zcan p c) : zMi l yX10_least wsX10_least 2 43 D (zT cI cJ cZ cP cS cM) L sz f [.ref v] (fun z g => z = zleast c ∧ g = f) := by
  refine zWalk.met (nL := 2) (ret := (some .int)) (cc := cX10_least) (by decide) rfl (Nat.le_of_ble_eq_true rfl) ?_
  intro pg en st mi ag bl mt cd ls CX hW hl
  have CX : zC pg st mi ag mt cd cX10_least 2 (some .int) RX10 wsX10_least := CX
  generalize hQ : MQ bl _ ag st 0 0 _ = Q
  have hX0 := CX.1
  have hB0 := CX.2.1
  have hl : lv_has ls 2 [(0, .ref v)] := hl
  obtain ⟨H, eH⟩ : ∃ H, H = st.heap := ⟨_, rfl⟩
  obtain ⟨locs, eL⟩ : ∃ L : List Loc, L = [] := ⟨_, rfl⟩
  have hW : zW D (zT cI cJ cZ cP cS cM) L (zQ L sz) st f st.heap H locs := by rw [eH, eL]; exact hW
  suffices hgo : W pg l en ({ frames := 2, cells := 0, slots := 0, locals := 43 } : Room) st mi ag bl mt cd H locs 0 0 Q (F0 mi 0 ls []) by rw [eH, eL] at hgo; exact hgo
  clear eH eL
  refine lv_iconst (v := zI 0) hX0 hB0 dX10_least_0 rfl ?_
  refine lv_istore_n (lv' := [(1, .int (zI 0)), (0, .ref v)]) hX0 hB0 dX10_least_1 rfl hl (by decide) rfl (fun ls hl => ?_)
  have hL2 : ∀ (fu : Nat) (d : Int), (0 ≤ d ∧ d ≤ 5 ∧ zleast c = zleastF c (5 - d).toNat d) → (5 - d).toNat < fu → ∀ (H : Heap) (locs : List Loc) (ls : Array Slot), zW D (zT cI cJ cZ cP cS cM) L (zQ L sz) st f st.heap H locs → lv_has ls 2 [(1, .int (zI d)), (0, .ref v)] → W pg l en ({ frames := 2, cells := 0, slots := 0, locals := 43 } : Room) st mi ag bl mt cd H locs 0 0 Q (F0 mi 2 ls []) := by
    intro fu
    induction fu with
    | zero => intro d _ hfu; exact absurd hfu (Nat.not_lt_zero _)
    | succ fu ih2 =>
      intro d hinv2 hfu2 H locs ls hW hl
      obtain ⟨hd0, hd1, hdz⟩ := hinv2
      refine lv_iload_n hX0 hB0 dX10_least_2 rfl (lv_at hl 0 rfl) ?_
      refine lv_iconst (v := zI 4) hX0 hB0 dX10_least_3 rfl ?_
      refine z_icmp_gt (tgt := 26) CX dX10_least_4 (by decide) (by constructor <;> omega) (by constructor <;> omega) (fun c_4 => ?_) (fun c_4 => ?_)
      ·
        refine lv_iconst (v := zI 4) hX0 hB0 dX10_least_26 rfl ?_
        rw [← hQ]
        exact z_iret (z := 4) CX hW (by exact ⟨by rw [hdz, show (5 - d).toNat = 0 by omega]; rfl, rfl⟩) rfl dX10_least_27
      ·
        refine lv_aload_n hX0 hB0 dX10_least_7 rfl (lv_at hl 1 rfl) ?_
        refine z_get (Cn := RX10) (T := TX10) (N := 3) CX hW (v := .ref (v + 1)) hv0 rfl (fun w h => List.mem_cons_of_mem _ (List.mem_append_left _ (List.mem_append_right _ h))) 0 (by decide) (List.mem_of_getElem? (i := 1) rfl) rfl rfl dX10_least_8 ?_
        refine lv_iload_n hX0 hB0 dX10_least_11 rfl (lv_at hl 0 rfl) ?_
        refine z_calli hW (va_runV (C := RX2) (As := [.int (zI d)]) (rest := []) CX.fix (c_leadAt l (f := f) (v + 1) (v + 2) c d hv1 hv2 (by first | assumption | exact zcan_le (by assumption) (by omega)) (by constructor <;> omega)) (cwV 1 CX.fix.2.2.2.2 gX10_least_X2_leadAt rfl rfl rfl (by decide +kernel) ⟨Nat.le_of_ble_eq_true rfl, Nat.le_of_ble_eq_true rfl⟩) (z_preV CX hW (r := (RX2, TX2, 1)) hv1 rfl) rfl rfl hl.1 rfl (lv_room (Nat.le_of_ble_eq_true rfl)) dX10_least_12 ⟨Nat.zero_le _, Nat.zero_le _⟩) (fun zv gn H locs hok12 hW => ?_)
        obtain ⟨ez, eg⟩ := hok12
        have eg : gn = f := eg
        rw [eg] at hW
        clear eg
        have ez : zv = zlead c d := ez
        rw [ez]
        clear ez
        have hld12 := zlead_rng c d (by omega)
        refine z_if_lt (tgt := 20) CX dX10_least_15 (by decide) (by constructor <;> omega) (fun c_15 => ?_) (fun c_15 => ?_)
        ·
          refine lv_iinc (v := zI (d + 1)) (lv' := [(1, .int (zI (d + 1))), (0, .ref v)]) hX0 hB0 dX10_least_20 hl (k := 0) rfl (zI_add _ _) (by decide) rfl (fun ls hl => ?_)
          refine lv_goto (tgt := 2) hX0 hB0 dX10_least_23 (by decide) ?_
          exact ih2 (d + 1) ⟨by omega, by omega, by rw [hdz, zleastF_s c (by omega), if_neg (by omega)]⟩ (by omega) H locs ls hW (lv_sub hl [0, 1] rfl)
        ·
          refine lv_iload_n hX0 hB0 dX10_least_18 rfl (lv_at hl 0 rfl) ?_
          rw [← hQ]
          exact z_iret (z := d) CX hW (by exact ⟨by rw [hdz, zleastF_s c (by omega), if_pos (by omega)], rfl⟩) rfl dX10_least_19
  exact hL2 _ 0 ⟨by omega, by omega, rfl⟩ (Nat.lt_succ_self _) H locs ls hW (lv_sub hl [0, 1] rfl)
end ZVi
