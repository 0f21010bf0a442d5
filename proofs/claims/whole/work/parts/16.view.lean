section ZVi
theorem zCH_rng (k : Nat) : 0 ≤ zCH k ∧ zCH k ≤ 6 := by
  by_cases h : k < 25
  · have key : ∀ j : Nat, j < 25 → 0 ≤ zCH j ∧ zCH j ≤ 6 := by decide +kernel
    exact key k h
  · have e : zCH k = 0 := by
      unfold zCH
      rw [List.getD_eq_getElem?_getD, List.getElem?_eq_none (by show 25 ≤ k; omega)]
      rfl
    omega
/-- what the power k has in the n-th power of x and a letter -/
def zsh (p x n k : Int) : Int := if 0 ≤ n ∧ n ≤ 4 ∧ 0 ≤ k ∧ k ≤ 4 then zCH (n * 5 + k).toNat * zpow x p (n - k).toNat % p else 0
theorem zsh_rng (x n k : Int) {p : Int} (hp : 0 < p) : 0 ≤ zsh p x n k ∧ zsh p x n k < p := by
  unfold zsh
  split
  · exact zmr _ hp
  · omega
/-- a term comes, near -/
def zadn_in (p y j a left : Int) : Int → (Nat → Int) → (Nat → Int) := fun b c => zput c a b ((zat c a b + left * zsh p y j b) % p)
def zadn_out (p num x y i j : Int) : Int → (Nat → Int) → (Nat → Int) := fun a c => zfor (zadn_in p y j a (num * zsh p x i a % p)) 0 c (j + 1 - 0).toNat
def zadn (p num x y i j : Int) (c : Nat → Int) : Nat → Int := zfor (zadn_out p num x y i j) 0 c (i + 1 - 0).toNat
/-- far -/
def zadf_in (p num y j m : Int) : Int → (Nat → Int) → (Nat → Int) := fun b c => zput c b m ((zat c b m + num * zsh p y j b) % p)
def zadf (p num x y i j n : Int) (c : Nat → Int) : Nat → Int := if x = 0 then zput c i (n - i - j) ((zat c i (n - i - j) + num) % p) else zfor (zadf_in p num y j (n - i - j)) 0 c (j + 1 - 0).toNat
theorem zadn_can {p num x y i j : Int} {c : Nat → Int} (hp : 0 < p) (h : zcan p c) : zcan p (zadn p num x y i j c) :=
  zfor_inv (zcan p) h (fun a x hx => zfor_inv (zcan p) hx (fun b y hy => zcan_put hy _ _ (zmr _ hp)) _) _
theorem zadf_can {p num x y i j n : Int} {c : Nat → Int} (hp : 0 < p) (h : zcan p c) : zcan p (zadf p num x y i j n c) := by
  unfold zadf
  split
  · exact zcan_put h _ _ (zmr _ hp)
  · exact zfor_inv (zcan p) h (fun b y hy => zcan_put hy _ _ (zmr _ hp)) _
/-- the LOCAL one -/
def zlook_in (d : Nat → Int) (p x y z n i : Int) : Int → (Nat → Int) → (Nat → Int) := fun j c => if zat d i j = 0 then c else if z = 1 then zadn p (zat d i j) x y i j c else zadf p (zat d i j) x y i j n c
def zlook_out (d : Nat → Int) (p x y z n : Int) : Int → (Nat → Int) → (Nat → Int) := fun i c => zfor (zlook_in d p x y z n i) 0 c (4 - i + 1 - 0).toNat
def zlookL (d : Nat → Int) (p x y z n : Int) : Nat → Int := zfor (zlook_out d p x y z n) 0 (zone 0) (5 - 0 : Int).toNat
def zlook (d : Nat → Int) (p x y z : Int) : Nat → Int := zlookL d p x y z (ztop d)
theorem zlook_can {d : Nat → Int} {p x y z : Int} (hp : 0 < p) : zcan p (zlook d p x y z) :=
  zfor_inv (zcan p) (zone_can hp (by omega)) (fun i c hc => zfor_inv (zcan p) hc (fun j c hc => by
    show zcan p (zlook_in d p x y z (ztop d) i j c)
    unfold zlook_in
    split
    · exact hc
    · split
      · exact zadn_can hp hc
      · exact zadf_can hp hc) _) _
/-- the ORDER -/
def zleastF (c : Nat → Int) : Nat → Int → Int
  | 0, _ => 4
  | n + 1, d => if 0 ≤ zlead c d then d else zleastF c n (d + 1)
def zleast (c : Nat → Int) : Int := zleastF c (5 - 0 : Int).toNat 0
theorem zleastF_rng (c : Nat → Int) : ∀ (n : Nat) (d : Int), 0 ≤ d → d + n ≤ 5 → 0 ≤ zleastF c n d ∧ zleastF c n d ≤ 4
  | 0, d, _, _ => by simp only [zleastF]; omega
  | n + 1, d, h1, h2 => by
    simp only [zleastF]
    split
    · omega
    · exact zleastF_rng c n (d + 1) (by omega) (by omega)
theorem zleast_rng (c : Nat → Int) : 0 ≤ zleast c ∧ zleast c ≤ 4 := zleastF_rng c _ 0 (by omega) (by decide)
theorem zleastF_s (c : Nat → Int) {d : Int} (h : d < 5) : zleastF c (5 - d).toNat d = if 0 ≤ zlead c d then d else zleastF c (5 - (d + 1)).toNat (d + 1) := by
  rw [show (5 - d).toNat = (5 - (d + 1)).toNat + 1 by omega]
  rfl
/-- what a polynomial of one letter is at w -/
def zhorn_s (lw : Nat → Int) (w p : Int) : Int → Int → Int := fun j k => (k * w + lw j.toNat) % p
def zhorn (lw : Nat → Int) (w p n : Int) : Int := zforD (zhorn_s lw w p) n 0 (n - -1).toNat
theorem zhorn_rng {lw : Nat → Int} {w p n : Int} (hp : 0 < p) : ∀ k : Nat, 0 ≤ zforD (zhorn_s lw w p) n 0 k ∧ zforD (zhorn_s lw w p) n 0 k < p
  | 0 => by show (0 : Int) ≤ 0 ∧ (0 : Int) < p; omega
  | k + 1 => zmr _ hp
/-- by v less w times u -/
def zdiv_s (w p : Int) : Int → (Nat → Int) × Int → (Nat → Int) × Int := fun j s => (zup s.1 j.toNat s.2, (s.2 * w + s.1 j.toNat) % p)
def zdiv1 (lw : Nat → Int) (w p n : Int) : Nat → Int := (zforD (zdiv_s w p) n (lw, 0) (n - -1).toNat).1
theorem zdiv_can {w p n q : Int} {s : (Nat → Int) × Int} (hp : 0 < p) (hq : p ≤ q) (h : zcan q s.1) (h2 : 0 ≤ s.2 ∧ s.2 < p) (k : Nat) : zcan q (zforD (zdiv_s w p) n s k).1 ∧ 0 ≤ (zforD (zdiv_s w p) n s k).2 ∧ (zforD (zdiv_s w p) n s k).2 < p :=
  zforD_inv (fun s : (Nat → Int) × Int => zcan q s.1 ∧ 0 ≤ s.2 ∧ s.2 < p) ⟨h, h2⟩ (fun i x hx => ⟨zcan_up hx.1 _ (by omega), zmr _ hp⟩) k
def zdivb (lw : Nat → Int) (w p n : Int) : Nat → Int := if zhorn lw w p n = 0 then zdiv1 lw w p n else lw
theorem zdivb_can {lw : Nat → Int} {w p n q : Int} (hp : 0 < p) (hq : p ≤ q) (h : zcan q lw) : zcan q (zdivb lw w p n) := by
  unfold zdivb
  split
  · exact (zdiv_can hp hq h (by show (0 : Int) ≤ 0 ∧ (0 : Int) < p; omega) _).1
  · exact h
/-- how often a WAY is TANGENT -/
def zlow_s (c : Nat → Int) (n : Int) : Int → (Nat → Int) → (Nat → Int) := fun j l => zup l j.toNat (zat c (n - j) j)
def zlow (c lw : Nat → Int) (n : Int) : Nat → Int := zfor (zlow_s c n) 0 lw (n + 1 - 0).toNat
def zofuF (lw : Nat → Int) (n : Int) : Nat → Int → Int
  | 0, o => o
  | k + 1, o => if lw (n - o).toNat = 0 then zofuF lw n k (o + 1) else o
def zofdF (w p n : Int) : Nat → Int → (Nat → Int) → Int × (Nat → Int)
  | 0, o, lw => (o, lw)
  | k + 1, o, lw => if zhorn lw w p (n - o) = 0 then zofdF w p n k (o + 1) (zdiv1 lw w p (n - o)) else (o, lw)
def zofL (c lw : Nat → Int) (w p n : Int) : Int × (Nat → Int) := if w = p then (zofuF (zlow c lw n) n (n - 0).toNat 0, zlow c lw n) else zofdF w p n (n - 0).toNat 0 (zlow c lw n)
def zoften (c lw : Nat → Int) (w p : Int) : Int × (Nat → Int) := zofL c lw w p (zleast c)
theorem zofuF_s (lw : Nat → Int) {n o : Int} (h : o < n) : zofuF lw n (n - o).toNat o = if lw (n - o).toNat = 0 then zofuF lw n (n - (o + 1)).toNat (o + 1) else o := by
  have e : (n - o).toNat = (n - (o + 1)).toNat + 1 := by omega
  show zofuF lw n ((n - o).toNat) o = _
  conv => lhs; rw [e]
  rfl
theorem zofdF_s (w p : Int) (lw : Nat → Int) {n o : Int} (h : o < n) : zofdF w p n (n - o).toNat o lw = if zhorn lw w p (n - o) = 0 then zofdF w p n (n - (o + 1)).toNat (o + 1) (zdiv1 lw w p (n - o)) else (o, lw) := by
  have e : (n - o).toNat = (n - (o + 1)).toNat + 1 := by omega
  rw [e]
  rfl
theorem zofuF_rng (lw : Nat → Int) (n : Int) : ∀ (k : Nat) (o : Int), 0 ≤ o → o ≤ zofuF lw n k o ∧ zofuF lw n k o ≤ o + k
  | 0, o, h => by simp only [zofuF]; omega
  | k + 1, o, h => by
    have := zofuF_rng lw n k (o + 1) (by omega)
    simp only [zofuF]
    split <;> omega
theorem zofdF_rng (w p n : Int) : ∀ (k : Nat) (o : Int) (lw : Nat → Int), 0 ≤ o → o ≤ (zofdF w p n k o lw).1 ∧ (zofdF w p n k o lw).1 ≤ o + k
  | 0, o, lw, h => by simp only [zofdF]; omega
  | k + 1, o, lw, h => by
    have := zofdF_rng w p n k (o + 1) (zdiv1 lw w p (n - o)) (by omega)
    simp only [zofdF]
    split
    · omega
    · show o ≤ o ∧ o ≤ _; omega
theorem zofdF_can {w p n q : Int} (hp : 0 < p) (hq : p ≤ q) : ∀ (k : Nat) (o : Int) (lw : Nat → Int), zcan q lw → zcan q (zofdF w p n k o lw).2
  | 0, o, lw, h => h
  | k + 1, o, lw, h => by
    simp only [zofdF]
    split
    · exact zofdF_can hp hq k _ _ (zdiv_can hp hq h (by show (0 : Int) ≤ 0 ∧ (0 : Int) < p; omega) _).1
    · exact h
theorem zlow_can {c lw : Nat → Int} {p n : Int} (hp : 0 < p) (hc : zcan p c) (h : zcan p lw) : zcan p (zlow c lw n) := zfor_inv (zcan p) h (fun i x hx => zcan_up hx _ (zat_can hp hc _ _)) _
theorem zoften_can {c lw : Nat → Int} {w p q : Int} (hp : 0 < p) (hq : p ≤ q) (hc : zcan q c) (h : zcan q lw) : zcan q (zoften c lw w p).2 := by
  unfold zoften zofL
  split
  · exact zlow_can (by omega) hc h
  · exact zofdF_can hp hq _ _ _ (zlow_can (by omega) hc h)
theorem zoften_rng (c lw : Nat → Int) (w p : Int) : 0 ≤ (zoften c lw w p).1 ∧ (zoften c lw w p).1 ≤ 4 := by
  have hn := zleast_rng c
  unfold zoften zofL
  split
  · have := zofuF_rng (zlow c lw (zleast c)) (zleast c) (zleast c - 0).toNat 0 (by omega)
    exact ⟨by omega, by omega⟩
  · have := zofdF_rng w p (zleast c) (zleast c - 0).toNat 0 (zlow c lw (zleast c)) (by omega)
    exact ⟨by omega, by omega⟩
/-- the BEND -/
def zbsum_s (c : Nat → Int) (p u v d : Int) : Int → Int → Int := fun i s => (s + zat c i (d - i) * (zpow u p i.toNat * zpow v p (d - i).toNat)) % p
def zbsum (c : Nat → Int) (p u v d : Int) : Int := zfor (zbsum_s c p u v d) 0 0 (d + 1 - 0).toNat
def zbendF (c : Nat → Int) (p u v : Int) : Nat → Int → Int
  | 0, _ => -2
  | n + 1, d => if zbsum c p u v d = 0 then zbendF c p u v n (d + 1) else d
def zbend (c : Nat → Int) (p : Int) : Int := if zleast c = 1 then zbendF c p (-zat c 0 1 % p) (zat c 1 0) (5 - 2 : Int).toNat 2 else -1
theorem zbendF_s (c : Nat → Int) (p u v : Int) {d : Int} (h : d < 5) : zbendF c p u v (5 - d).toNat d = if zbsum c p u v d = 0 then zbendF c p u v (5 - (d + 1)).toNat (d + 1) else d := by
  rw [show (5 - d).toNat = (5 - (d + 1)).toNat + 1 by omega]
  rfl
theorem zbendF_rng (c : Nat → Int) (p u v : Int) : ∀ (n : Nat) (d : Int), 0 ≤ d → d + n ≤ 5 → -2 ≤ zbendF c p u v n d ∧ zbendF c p u v n d ≤ 4
  | 0, d, _, _ => by simp only [zbendF]; omega
  | n + 1, d, h1, h2 => by
    simp only [zbendF]
    split
    · exact zbendF_rng c p u v n (d + 1) (by omega) (by omega)
    · omega
theorem zbend_rng (c : Nat → Int) (p : Int) : -2 ≤ zbend c p ∧ zbend c p ≤ 4 := by
  unfold zbend
  split
  · exact zbendF_rng _ _ _ _ _ 2 (by omega) (by decide)
  · omega
theorem zbsum_rng {c : Nat → Int} {p u v d : Int} (hp : 0 < p) : ∀ k : Nat, 0 ≤ zfor (zbsum_s c p u v d) 0 0 k ∧ zfor (zbsum_s c p u v d) 0 0 k < p
  | 0 => by show (0 : Int) ≤ 0 ∧ (0 : Int) < p; omega
  | k + 1 => zmr _ hp
set_option maxRecDepth 100000 in
set_option maxHeartbeats 4000000 in
/-- View.shifted -/
theorem c_shifted (l : Launch) {D : va_G} {cI cJ cZ cP cS cM : ClassId} {L : List Nat} {sz : Nat} {f : Nat → va_E} (v : Nat) (p x n k : Int) (q1 q2 : Nat) (hv0 : f v = .inr (10, [.ref q1, .ref q2, .int (zI p)])) (hp : 2 ≤ p ∧ p ≤ 31) (hx : -1000000 ≤ x ∧ x ≤ 1000000) (hn : -2147483648 ≤ n ∧ n ≤ 2147483647) (hk : -2147483648 ≤ k ∧ k ≤ 2147483647) : zMi l yX10_shifted wsX10_shifted 2 46 D (zT cI cJ cZ cP cS cM) L sz f [.ref v, .int (zI x), .int (zI n), .int (zI k)] (fun z g => z = zsh p x n k ∧ g = f) := by
  refine zWalk.met (nL := 4) (ret := (some .int)) (cc := cX10_shifted) (by decide) rfl (Nat.le_of_ble_eq_true rfl) ?_
  intro pg en st mi ag bl mt cd ls CX hW hl
  have CX : zC pg st mi ag mt cd cX10_shifted 4 (some .int) RX10 wsX10_shifted := CX
  generalize hQ : MQ bl _ ag st 0 0 _ = Q
  have hX0 := CX.1
  have hB0 := CX.2.1
  have hl : lv_has ls 4 [(0, .ref v), (1, .int (zI x)), (2, .int (zI n)), (3, .int (zI k))] := hl
  obtain ⟨H, eH⟩ : ∃ H, H = st.heap := ⟨_, rfl⟩
  obtain ⟨locs, eL⟩ : ∃ L : List Loc, L = [] := ⟨_, rfl⟩
  have hW : zW D (zT cI cJ cZ cP cS cM) L (zQ L sz) st f st.heap H locs := by rw [eH, eL]; exact hW
  suffices hgo : W pg l en ({ frames := 2, cells := 0, slots := 0, locals := 46 } : Room) st mi ag bl mt cd H locs 0 0 Q (F0 mi 0 ls []) by rw [eH, eL] at hgo; exact hgo
  clear eH eL
  refine lv_iload_n hX0 hB0 dX10_shifted_0 rfl (lv_at hl 2 rfl) ?_
  refine lv_iconst (v := zI 0) hX0 hB0 dX10_shifted_1 rfl ?_
  refine z_calli hW (va_runS (As := [.int (zI n), .int (zI 0)]) (rest := []) CX.fix (c_fits l (f := f) n 0 (by constructor <;> omega) (by constructor <;> omega)) (va_cwS 2 CX.fix.2.2.2.2 gX10_shifted_X2_fits rfl rfl rfl (by decide +kernel) ⟨Nat.le_of_ble_eq_true rfl, Nat.le_of_ble_eq_true rfl⟩) (z_preS CX hW) rfl rfl hl.1 rfl (lv_room (Nat.le_of_ble_eq_true rfl)) dX10_shifted_2 ⟨Nat.zero_le _, Nat.zero_le _⟩) (fun zv gn H locs hok2 hW => ?_)
  obtain ⟨ez, eg⟩ := hok2
  have eg : gn = f := eg
  rw [eg] at hW
  clear eg
  have ez : zv = bI (zfits n 0) := ez
  rw [ez]
  clear ez
  have hb2 := bI_01 (zfits n 0)
  refine z_if_eq (tgt := 16) CX dX10_shifted_5 (by decide) (by constructor <;> omega) (fun c_5 => ?_) (fun c_5 => ?_)
  ·
    have hq := bI_0 c_5
    unfold zfits at hq
    refine lv_iconst (v := zI 0) hX0 hB0 dX10_shifted_16 rfl ?_
    rw [← hQ]
    exact z_iret (z := 0) CX hW (by exact ⟨by unfold zsh; rw [if_neg (by omega)], rfl⟩) rfl dX10_shifted_17
  ·
    have hq := bI_1 c_5
    unfold zfits at hq
    refine lv_iload_n hX0 hB0 dX10_shifted_8 rfl (lv_at hl 3 rfl) ?_
    refine lv_iconst (v := zI 0) hX0 hB0 dX10_shifted_9 rfl ?_
    refine z_calli hW (va_runS (As := [.int (zI k), .int (zI 0)]) (rest := []) CX.fix (c_fits l (f := f) k 0 (by constructor <;> omega) (by constructor <;> omega)) (va_cwS 2 CX.fix.2.2.2.2 gX10_shifted_X2_fits rfl rfl rfl (by decide +kernel) ⟨Nat.le_of_ble_eq_true rfl, Nat.le_of_ble_eq_true rfl⟩) (z_preS CX hW) rfl rfl hl.1 rfl (lv_room (Nat.le_of_ble_eq_true rfl)) dX10_shifted_10 ⟨Nat.zero_le _, Nat.zero_le _⟩) (fun zv gn H locs hok10 hW => ?_)
    obtain ⟨ez, eg⟩ := hok10
    have eg : gn = f := eg
    rw [eg] at hW
    clear eg
    have ez : zv = bI (zfits k 0) := ez
    rw [ez]
    clear ez
    have hb10 := bI_01 (zfits k 0)
    refine z_if_ne (tgt := 18) CX dX10_shifted_13 (by decide) (by constructor <;> omega) (fun c_13 => ?_) (fun c_13 => ?_)
    ·
      have hq2 := bI_1 c_13
      unfold zfits at hq2
      refine z_gets CX hW hW.2.2.2.2.2.2.2.1.1 (List.mem_of_getElem? (i := 1) rfl) rfl dX10_shifted_18 ?_
      refine lv_iload_n hX0 hB0 dX10_shifted_21 rfl (lv_at hl 2 rfl) ?_
      refine lv_iconst (v := zI 5) hX0 hB0 dX10_shifted_22 rfl ?_
      refine z_imul (z := n * 5) CX dX10_shifted_23 rfl ?_
      refine lv_iload_n hX0 hB0 dX10_shifted_24 rfl (lv_at hl 3 rfl) ?_
      refine z_iadd (z := (n * 5) + k) CX dX10_shifted_25 rfl ?_
      refine z_tald (d := zCH) (z := zCH (((n * 5) + k).toNat)) CX hW hW.2.2.2.2.2.2.2.1.2 (by refine ⟨?_, ?_, ?_⟩ <;> omega) rfl dX10_shifted_26 ?_
      refine lv_iload_n hX0 hB0 dX10_shifted_27 rfl (lv_at hl 1 rfl) ?_
      refine lv_iload_n hX0 hB0 dX10_shifted_28 rfl (lv_at hl 2 rfl) ?_
      refine lv_iload_n hX0 hB0 dX10_shifted_29 rfl (lv_at hl 3 rfl) ?_
      refine z_isub (z := n - k) CX dX10_shifted_30 rfl ?_
      refine lv_aload_n hX0 hB0 dX10_shifted_31 rfl (lv_at hl 0 rfl) ?_
      refine z_get (Cn := RX10) (T := TX10) (N := 3) CX hW (v := .int (zI p)) hv0 rfl (fun w h => List.mem_cons_of_mem _ (List.mem_append_right _ h)) 2 (by decide) (List.mem_of_getElem? (i := 2) rfl) rfl rfl dX10_shifted_32 ?_
      refine z_calli hW (va_runSN (As := [.int (zI x), .int (zI (n - k)), .int (zI p)]) (rest := [.int (zI (zCH (((n * 5) + k).toNat)))]) CX.fix (c_power l (f := f) x (n - k) p (by constructor <;> omega) (by omega) (by omega) (by constructor <;> omega)) ⟨va_cnB (own := RX10) (host := "CurveMeets") (index := 75) 3 CX.fix.2.2.2.2 ggX10_shifted_X11_power rfl rfl rfl (CX.2.2.2.2.2.2.2.1 _ (by decide +kernel)) (CX.at (List.mem_of_getElem? (i := 8) rfl)) (by decide +kernel) ⟨Nat.le_of_ble_eq_true rfl, Nat.le_of_ble_eq_true rfl⟩, CX.at (List.mem_of_getElem? (i := 7) rfl), trivial⟩ (z_preS CX hW) rfl rfl hl.1 rfl (lv_room (Nat.le_of_ble_eq_true rfl)) dX10_shifted_35 ⟨Nat.zero_le _, Nat.zero_le _⟩) (fun zv gn H locs hok35 hW => ?_)
      obtain ⟨ez, eg⟩ := hok35
      have eg : gn = f := eg
      rw [eg] at hW
      clear eg
      have ez : zv = zpow x p (n - k).toNat := ez
      rw [ez]
      clear ez
      have hpw35 := zpow_rng x (p := p) (by omega) (n - k).toNat
      have hch := zCH_rng (n * 5 + k).toNat
      have hcm := zmul_rng (a := zCH (n * 5 + k).toNat) (b := zpow x p (n - k).toNat) (A := 6) (B := 31) (by omega) (by omega)
      refine z_imul (z := (zCH (((n * 5) + k).toNat)) * (zpow x p (n - k).toNat)) CX dX10_shifted_38 rfl ?_
      refine lv_aload_n hX0 hB0 dX10_shifted_39 rfl (lv_at hl 0 rfl) ?_
      refine z_get (Cn := RX10) (T := TX10) (N := 3) CX hW (v := .int (zI p)) hv0 rfl (fun w h => List.mem_cons_of_mem _ (List.mem_append_right _ h)) 2 (by decide) (List.mem_of_getElem? (i := 2) rfl) rfl rfl dX10_shifted_40 ?_
      refine z_calli hW (va_runSN (As := [.int (zI ((zCH (((n * 5) + k).toNat)) * (zpow x p (n - k).toNat))), .int (zI p)]) (rest := []) CX.fix (c_mod l (f := f) ((zCH (((n * 5) + k).toNat)) * (zpow x p (n - k).toNat)) p (by constructor <;> omega) (by constructor <;> omega)) ⟨va_cnB (own := RX10) (host := "CurveMeets") (index := 58) 2 CX.fix.2.2.2.2 ggX10_shifted_X11_mod rfl rfl rfl (CX.2.2.2.2.2.2.2.1 _ (by decide +kernel)) (CX.at (List.mem_of_getElem? (i := 8) rfl)) (by decide +kernel) ⟨Nat.le_of_ble_eq_true rfl, Nat.le_of_ble_eq_true rfl⟩, CX.at (List.mem_of_getElem? (i := 11) rfl), trivial⟩ (z_preS CX hW) rfl rfl hl.1 rfl (lv_room (Nat.le_of_ble_eq_true rfl)) dX10_shifted_43 ⟨Nat.zero_le _, Nat.zero_le _⟩) (fun zv gn H locs hok43 hW => ?_)
      obtain ⟨ez, eg⟩ := hok43
      have eg : gn = f := eg
      rw [eg] at hW
      clear eg
      have ez : zv = ((zCH (((n * 5) + k).toNat)) * (zpow x p (n - k).toNat)) % p := ez
      rw [ez]
      clear ez
      have hm43 := zmr ((zCH (((n * 5) + k).toNat)) * (zpow x p (n - k).toNat)) (p := p) (by omega)
      rw [← hQ]
      exact z_iret (z := ((zCH (((n * 5) + k).toNat)) * (zpow x p (n - k).toNat)) % p) CX hW (by exact ⟨by unfold zsh; rw [if_pos (by omega)], rfl⟩) rfl dX10_shifted_46
    ·
      have hq2 := bI_0 (show bI (zfits k 0) = 0 by omega)
      unfold zfits at hq2
      refine lv_iconst (v := zI 0) hX0 hB0 dX10_shifted_16 rfl ?_
      rw [← hQ]
      exact z_iret (z := 0) CX hW (by exact ⟨by unfold zsh; rw [if_neg (by omega)], rfl⟩) rfl dX10_shifted_17
set_option maxRecDepth 100000 in
set_option maxHeartbeats 4000000 in
/-- View.addNear -/
theorem c_addNear (l : Launch) {D : va_G} {cI cJ cZ cP cS cM : ClassId} {L : List Nat} {sz : Nat} {f : Nat → va_E} (v : Nat) (p : Int) (c lw : Nat → Int) (s : Nat) (x y z : Int) (num i j : Int) (hv0 : f v = .inr (10, [.ref (v + 1), .ref (v + 3), .int (zI p)])) (hv1 : f (v + 1) = .inr (2, [.ref (v + 2)])) (hv2 : f (v + 2) = zA cI 25 c) (hv3 : f (v + 3) = zA cI 5 lw) (hp : 2 ≤ p ∧ p ≤ 31) (hs0 : f s = .inr (9, [.int (zI x), .int (zI y), .int (zI z)])) (hsd : s < v ∨ v + 4 ≤ s) (hx : 0 ≤ x ∧ x ≤ 31) (hy : 0 ≤ y ∧ y ≤ 31) (hc : zcan p c) (hnum : 0 ≤ num ∧ num ≤ 31) (hi : 0 ≤ i ∧ i ≤ 4) (hj : 0 ≤ j ∧ j ≤ 4) : zMv l yX10_addNear wsX10_addNear 3 69 D (zT cI cJ cZ cP cS cM) L sz f [.ref v, .int (zI num), .int (zI i), .int (zI j), .ref s] (fun g => g = va_up f (v + 2) (zA cI 25 (zadn p num x y i j c))) := by
  refine zWalk.met (nL := 8) (ret := none) (cc := cX10_addNear) (by decide) rfl (Nat.le_of_ble_eq_true rfl) ?_
  intro pg en st mi ag bl mt cd ls CX hW hl
  have CX : zC pg st mi ag mt cd cX10_addNear 8 none RX10 wsX10_addNear := CX
  generalize hQ : MQ bl _ ag st 0 0 _ = Q
  have hX0 := CX.1
  have hB0 := CX.2.1
  have hl : lv_has ls 8 [(0, .ref v), (1, .int (zI num)), (2, .int (zI i)), (3, .int (zI j)), (4, .ref s)] := hl
  obtain ⟨H, eH⟩ : ∃ H, H = st.heap := ⟨_, rfl⟩
  obtain ⟨locs, eL⟩ : ∃ L : List Loc, L = [] := ⟨_, rfl⟩
  have hW : zW D (zT cI cJ cZ cP cS cM) L (zQ L sz) st f st.heap H locs := by rw [eH, eL]; exact hW
  suffices hgo : W pg l en ({ frames := 3, cells := 0, slots := 0, locals := 69 } : Room) st mi ag bl mt cd H locs 0 0 Q (F0 mi 0 ls []) by rw [eH, eL] at hgo; exact hgo
  clear eH eL
  refine lv_iconst (v := zI 0) hX0 hB0 dX10_addNear_0 rfl ?_
  refine lv_istore (lv' := [(5, .int (zI 0)), (0, .ref v), (1, .int (zI num)), (2, .int (zI i)), (3, .int (zI j)), (4, .ref s)]) hX0 hB0 dX10_addNear_1 hl (by decide) rfl (fun ls hl => ?_)
  have hL3 : ∀ (fu : Nat) (a : Int) (co : Nat → Int), (0 ≤ a ∧ (a ≤ i + 1 ∨ a = 0) ∧ co = zfor (zadn_out p num x y i j) 0 c (a - 0).toNat ∧ zcan p co) → (i + 1 - a).toNat < fu → ∀ (H : Heap) (locs : List Loc) (ls : Array Slot), zW D (zT cI cJ cZ cP cS cM) L (zQ L sz) st (va_up f (v + 2) (zA cI 25 co)) st.heap H locs → lv_has ls 8 [(5, .int (zI a)), (0, .ref v), (1, .int (zI num)), (2, .int (zI i)), (3, .int (zI j)), (4, .ref s)] → W pg l en ({ frames := 3, cells := 0, slots := 0, locals := 69 } : Room) st mi ag bl mt cd H locs 0 0 Q (F0 mi 3 ls []) := by
    intro fu
    induction fu with
    | zero => intro a co _ hfu; exact absurd hfu (Nat.not_lt_zero _)
    | succ fu ih3 =>
      intro a co hinv3 hfu3 H locs ls hW hl
      obtain ⟨ha0, ha1, heco, hco⟩ := hinv3
      refine lv_iload hX0 hB0 dX10_addNear_3 (lv_at hl 0 rfl) ?_
      refine lv_iload_n hX0 hB0 dX10_addNear_5 rfl (lv_at hl 3 rfl) ?_
      refine z_icmp_gt (tgt := 83) CX dX10_addNear_6 (by decide) (by constructor <;> omega) (by constructor <;> omega) (fun c_6 => ?_) (fun c_6 => ?_)
      ·
        rw [← hQ]
        exact z_vret CX hW (by rw [heco, show (a - 0).toNat = (i + 1 - 0).toNat by omega]; rfl) dX10_addNear_83
      ·
        refine lv_iload_n hX0 hB0 dX10_addNear_9 rfl (lv_at hl 2 rfl) ?_
        refine lv_aload_n hX0 hB0 dX10_addNear_10 rfl (lv_at hl 1 rfl) ?_
        refine lv_aload hX0 hB0 dX10_addNear_11 (lv_at hl 5 rfl) ?_
        refine z_get (Cn := RX9) (T := TX9) (N := 3) CX hW (v := .int (zI x)) ((va_up_ne _ _ (by omega)).trans hs0) rfl (fun w h => List.mem_cons_of_mem _ (List.mem_append_left _ (List.mem_append_left _ (List.mem_append_right _ h)))) 0 (by decide) (List.mem_of_getElem? (i := 1) rfl) rfl rfl dX10_addNear_13 ?_
        refine lv_iload_n hX0 hB0 dX10_addNear_16 rfl (lv_at hl 3 rfl) ?_
        refine lv_iload hX0 hB0 dX10_addNear_17 (lv_at hl 0 rfl) ?_
        refine z_calli hW (va_runV (C := RX10) (As := [.int (zI x), .int (zI i), .int (zI a)]) (rest := [.int (zI num)]) CX.fix (c_shifted l (f := va_up f (v + 2) (zA cI 25 co)) v p x i a (v + 1) (v + 3) ((va_up_ne _ _ (by omega)).trans hv0) (by constructor <;> omega) (by constructor <;> omega) (by constructor <;> omega) (by constructor <;> omega)) (cwV 3 CX.fix.2.2.2.2 gX10_addNear_X10_shifted rfl rfl rfl (by decide +kernel) ⟨Nat.le_of_ble_eq_true rfl, Nat.le_of_ble_eq_true rfl⟩) (z_preV CX hW (r := (RX10, TX10, 3)) ((va_up_ne _ _ (by omega)).trans hv0) rfl) rfl rfl hl.1 rfl (lv_room (Nat.le_of_ble_eq_true rfl)) dX10_addNear_19 ⟨Nat.zero_le _, Nat.zero_le _⟩) (fun zv gn H locs hok19 hW => ?_)
        obtain ⟨ez, eg⟩ := hok19
        have eg : gn = va_up f (v + 2) (zA cI 25 co) := eg
        rw [eg] at hW
        clear eg
        have ez : zv = zsh p x i a := ez
        rw [ez]
        clear ez
        have hsh19 := zsh_rng x i a (p := p) (by omega)
        have hmu19 := zmul_rng (a := num) (b := zsh p x i a) (A := 31) (B := 31) (by omega) (by omega)
        refine z_imul (z := num * (zsh p x i a)) CX dX10_addNear_22 rfl ?_
        refine lv_aload_n hX0 hB0 dX10_addNear_23 rfl (lv_at hl 1 rfl) ?_
        refine z_get (Cn := RX10) (T := TX10) (N := 3) CX hW (v := .int (zI p)) ((va_up_ne _ _ (by omega)).trans hv0) rfl (fun w h => List.mem_cons_of_mem _ (List.mem_append_left _ (List.mem_append_right _ h))) 2 (by decide) (List.mem_of_getElem? (i := 2) rfl) rfl rfl dX10_addNear_24 ?_
        refine z_calli hW (va_runSN (As := [.int (zI (num * (zsh p x i a))), .int (zI p)]) (rest := []) CX.fix (c_mod l (f := va_up f (v + 2) (zA cI 25 co)) (num * (zsh p x i a)) p (by constructor <;> omega) (by constructor <;> omega)) ⟨va_cnB (own := RX10) (host := "CurveMeets") (index := 58) 2 CX.fix.2.2.2.2 ggX10_addNear_X11_mod rfl rfl rfl (CX.2.2.2.2.2.2.2.1 _ (by decide +kernel)) (CX.at (List.mem_of_getElem? (i := 16) rfl)) (by decide +kernel) ⟨Nat.le_of_ble_eq_true rfl, Nat.le_of_ble_eq_true rfl⟩, CX.at (List.mem_of_getElem? (i := 19) rfl), trivial⟩ (z_preS CX hW) rfl rfl hl.1 rfl (lv_room (Nat.le_of_ble_eq_true rfl)) dX10_addNear_27 ⟨Nat.zero_le _, Nat.zero_le _⟩) (fun zv gn H locs hok27 hW => ?_)
        obtain ⟨ez, eg⟩ := hok27
        have eg : gn = va_up f (v + 2) (zA cI 25 co) := eg
        rw [eg] at hW
        clear eg
        have ez : zv = (num * (zsh p x i a)) % p := ez
        rw [ez]
        clear ez
        have hm27 := zmr (num * (zsh p x i a)) (p := p) (by omega)
        refine lv_istore (lv' := [(6, .int (zI ((num * (zsh p x i a)) % p))), (5, .int (zI a)), (0, .ref v), (1, .int (zI num)), (2, .int (zI i)), (3, .int (zI j)), (4, .ref s)]) hX0 hB0 dX10_addNear_30 hl (by decide) rfl (fun ls hl => ?_)
        refine lv_iconst (v := zI 0) hX0 hB0 dX10_addNear_32 rfl ?_
        refine lv_istore (lv' := [(7, .int (zI 0)), (6, .int (zI ((num * (zsh p x i a)) % p))), (5, .int (zI a)), (0, .ref v), (1, .int (zI num)), (2, .int (zI i)), (3, .int (zI j)), (4, .ref s)]) hX0 hB0 dX10_addNear_33 hl (by decide) rfl (fun ls hl => ?_)
        have hL35 : ∀ (fu : Nat) (b : Int) (cc : Nat → Int), (0 ≤ b ∧ (b ≤ j + 1 ∨ b = 0) ∧ cc = zfor (zadn_in p y j a (num * zsh p x i a % p)) 0 co (b - 0).toNat ∧ zcan p cc) → (j + 1 - b).toNat < fu → ∀ (H : Heap) (locs : List Loc) (ls : Array Slot), zW D (zT cI cJ cZ cP cS cM) L (zQ L sz) st (va_up f (v + 2) (zA cI 25 cc)) st.heap H locs → lv_has ls 8 [(7, .int (zI b)), (6, .int (zI ((num * (zsh p x i a)) % p))), (5, .int (zI a)), (0, .ref v), (1, .int (zI num)), (2, .int (zI i)), (3, .int (zI j)), (4, .ref s)] → W pg l en ({ frames := 3, cells := 0, slots := 0, locals := 69 } : Room) st mi ag bl mt cd H locs 0 0 Q (F0 mi 35 ls []) := by
          intro fu
          induction fu with
          | zero => intro b cc _ hfu; exact absurd hfu (Nat.not_lt_zero _)
          | succ fu ih35 =>
            intro b cc hinv35 hfu35 H locs ls hW hl
            obtain ⟨hb0, hb1, hecc, hcc⟩ := hinv35
            refine lv_iload hX0 hB0 dX10_addNear_35 (lv_at hl 0 rfl) ?_
            refine lv_iload_n hX0 hB0 dX10_addNear_37 rfl (lv_at hl 6 rfl) ?_
            refine z_icmp_gt (tgt := 77) CX dX10_addNear_38 (by decide) (by constructor <;> omega) (by constructor <;> omega) (fun c_38 => ?_) (fun c_38 => ?_)
            ·
              refine lv_iinc (v := zI (a + 1)) (lv' := [(5, .int (zI (a + 1))), (7, .int (zI b)), (6, .int (zI ((num * (zsh p x i a)) % p))), (0, .ref v), (1, .int (zI num)), (2, .int (zI i)), (3, .int (zI j)), (4, .ref s)]) hX0 hB0 dX10_addNear_77 hl (k := 2) rfl (zI_add _ _) (by decide) rfl (fun ls hl => ?_)
              refine lv_goto (tgt := 3) hX0 hB0 dX10_addNear_80 (by decide) ?_
              exact ih3 (a + 1) cc ⟨by omega, by omega, by rw [zfor_s _ _ _ ha0, ← heco]; rw [hecc]; show zfor _ 0 co _ = zfor _ 0 co _; congr 1; omega, hcc⟩ (by omega) H locs ls hW (lv_sub hl [0, 3, 4, 5, 6, 7] rfl)
            ·
              refine lv_aload_n hX0 hB0 dX10_addNear_41 rfl (lv_at hl 3 rfl) ?_
              refine z_get (Cn := RX10) (T := TX10) (N := 3) CX hW (v := .ref (v + 1)) ((va_up_ne _ _ (by omega)).trans hv0) rfl (fun w h => List.mem_cons_of_mem _ (List.mem_append_left _ (List.mem_append_right _ h))) 0 (by decide) (List.mem_of_getElem? (i := 3) rfl) rfl rfl dX10_addNear_42 ?_
              refine lv_iload hX0 hB0 dX10_addNear_45 (lv_at hl 2 rfl) ?_
              refine lv_iload hX0 hB0 dX10_addNear_47 (lv_at hl 0 rfl) ?_
              refine lv_iload hX0 hB0 dX10_addNear_49 (lv_at hl 1 rfl) ?_
              refine lv_aload_n hX0 hB0 dX10_addNear_51 rfl (lv_at hl 3 rfl) ?_
              refine lv_aload hX0 hB0 dX10_addNear_52 (lv_at hl 7 rfl) ?_
              refine z_get (Cn := RX9) (T := TX9) (N := 3) CX hW (v := .int (zI y)) ((va_up_ne _ _ (by omega)).trans hs0) rfl (fun w h => List.mem_cons_of_mem _ (List.mem_append_left _ (List.mem_append_left _ (List.mem_append_right _ h)))) 1 (by decide) (List.mem_of_getElem? (i := 4) rfl) rfl rfl dX10_addNear_54 ?_
              refine lv_iload_n hX0 hB0 dX10_addNear_57 rfl (lv_at hl 6 rfl) ?_
              refine lv_iload hX0 hB0 dX10_addNear_58 (lv_at hl 0 rfl) ?_
              refine z_calli hW (va_runV (C := RX10) (As := [.int (zI y), .int (zI j), .int (zI b)]) (rest := [.int (zI ((num * (zsh p x i a)) % p)), .int (zI b), .int (zI a), .ref (v + 1)]) CX.fix (c_shifted l (f := va_up f (v + 2) (zA cI 25 cc)) v p y j b (v + 1) (v + 3) ((va_up_ne _ _ (by omega)).trans hv0) (by constructor <;> omega) (by constructor <;> omega) (by constructor <;> omega) (by constructor <;> omega)) (cwV 3 CX.fix.2.2.2.2 gX10_addNear_X10_shifted rfl rfl rfl (by decide +kernel) ⟨Nat.le_of_ble_eq_true rfl, Nat.le_of_ble_eq_true rfl⟩) (z_preV CX hW (r := (RX10, TX10, 3)) ((va_up_ne _ _ (by omega)).trans hv0) rfl) rfl rfl hl.1 rfl (lv_room (Nat.le_of_ble_eq_true rfl)) dX10_addNear_60 ⟨Nat.zero_le _, Nat.zero_le _⟩) (fun zv gn H locs hok60 hW => ?_)
              obtain ⟨ez, eg⟩ := hok60
              have eg : gn = va_up f (v + 2) (zA cI 25 cc) := eg
              rw [eg] at hW
              clear eg
              have ez : zv = zsh p y j b := ez
              rw [ez]
              clear ez
              have hsh60 := zsh_rng y j b (p := p) (by omega)
              have hle := zmr (num * zsh p x i a) (p := p) (by omega)
              have hmu60 := zmul_rng (a := num * zsh p x i a % p) (b := zsh p y j b) (A := 31) (B := 31) (by omega) (by omega)
              refine z_imul (z := ((num * (zsh p x i a)) % p) * (zsh p y j b)) CX dX10_addNear_63 rfl ?_
              refine lv_aload_n hX0 hB0 dX10_addNear_64 rfl (lv_at hl 3 rfl) ?_
              refine z_get (Cn := RX10) (T := TX10) (N := 3) CX hW (v := .int (zI p)) ((va_up_ne _ _ (by omega)).trans hv0) rfl (fun w h => List.mem_cons_of_mem _ (List.mem_append_left _ (List.mem_append_right _ h))) 2 (by decide) (List.mem_of_getElem? (i := 2) rfl) rfl rfl dX10_addNear_65 ?_
              refine z_callv hW (va_runV (C := RX2) (As := [.int (zI a), .int (zI b), .int (zI (((num * (zsh p x i a)) % p) * (zsh p y j b))), .int (zI p)]) (rest := []) CX.fix (c_increase l (f := va_up f (v + 2) (zA cI 25 cc)) (v + 1) (v + 2) cc a b (((num * (zsh p x i a)) % p) * (zsh p y j b)) p ((va_up_ne _ _ (by omega)).trans hv1) (va_up_self _ _ _) (by assumption) (by constructor <;> omega) (by constructor <;> omega) (by constructor <;> omega) (by constructor <;> omega)) (cwV 4 CX.fix.2.2.2.2 gX10_addNear_X2_increase rfl rfl rfl (by decide +kernel) ⟨Nat.le_of_ble_eq_true rfl, Nat.le_of_ble_eq_true rfl⟩) (z_preV CX hW (r := (RX2, TX2, 1)) ((va_up_ne _ _ (by omega)).trans hv1) rfl) rfl rfl hl.1 rfl (lv_room (Nat.le_of_ble_eq_true rfl)) dX10_addNear_68 ⟨Nat.zero_le _, Nat.zero_le _⟩) (fun gn H locs hok68 hW => ?_)
              have eg : gn = va_up f (v + 2) (zA cI 25 (zput cc a b ((zat cc a b + (((num * (zsh p x i a)) % p) * (zsh p y j b))) % p))) := (hok68).trans va_up_up
              rw [eg] at hW
              clear eg
              refine lv_iinc (v := zI (b + 1)) (lv' := [(7, .int (zI (b + 1))), (6, .int (zI ((num * (zsh p x i a)) % p))), (5, .int (zI a)), (0, .ref v), (1, .int (zI num)), (2, .int (zI i)), (3, .int (zI j)), (4, .ref s)]) hX0 hB0 dX10_addNear_71 hl (k := 0) rfl (zI_add _ _) (by decide) rfl (fun ls hl => ?_)
              refine lv_goto (tgt := 35) hX0 hB0 dX10_addNear_74 (by decide) ?_
              exact ih35 (b + 1) (zput cc a b ((zat cc a b + (((num * (zsh p x i a)) % p) * (zsh p y j b))) % p)) ⟨by omega, by omega, by rw [zfor_s _ _ _ hb0, ← hecc]; rfl, zcan_put hcc _ _ (zmr _ (by omega))⟩ (by omega) H locs ls hW (lv_sub hl [0, 1, 2, 3, 4, 5, 6, 7] rfl)
        exact hL35 _ 0 co ⟨by omega, Or.inr rfl, (zfor_0 _ _ _).symm, hco⟩ (Nat.lt_succ_self _) H locs ls hW (lv_sub hl [0, 1, 2, 3, 4, 5, 6, 7] rfl)
  have hW := hW
  rw [show f = va_up f (v + 2) (zA cI 25 c) from by rw [va_up_id (a := (v + 2)) hv2]] at hW
  exact hL3 _ 0 c ⟨by omega, Or.inr rfl, (zfor_0 _ _ _).symm, hc⟩ (Nat.lt_succ_self _) H locs ls hW (lv_sub hl [0, 1, 2, 3, 4, 5] rfl)
set_option maxRecDepth 100000 in
set_option maxHeartbeats 4000000 in
/-- View.addFar -/
theorem c_addFar (l : Launch) {D : va_G} {cI cJ cZ cP cS cM : ClassId} {L : List Nat} {sz : Nat} {f : Nat → va_E} (v : Nat) (p : Int) (c lw : Nat → Int) (s : Nat) (x y z : Int) (num i j n : Int) (hv0 : f v = .inr (10, [.ref (v + 1), .ref (v + 3), .int (zI p)])) (hv1 : f (v + 1) = .inr (2, [.ref (v + 2)])) (hv2 : f (v + 2) = zA cI 25 c) (hv3 : f (v + 3) = zA cI 5 lw) (hp : 2 ≤ p ∧ p ≤ 31) (hs0 : f s = .inr (9, [.int (zI x), .int (zI y), .int (zI z)])) (hsd : s < v ∨ v + 4 ≤ s) (hx : 0 ≤ x ∧ x ≤ 31) (hy : 0 ≤ y ∧ y ≤ 31) (hc : zcan p c) (hnum : 0 ≤ num ∧ num ≤ 31) (hi : 0 ≤ i ∧ i ≤ 4) (hj : 0 ≤ j ∧ j ≤ 4) (hn : -1000 ≤ n ∧ n ≤ 1000) : zMv l yX10_addFar wsX10_addFar 3 69 D (zT cI cJ cZ cP cS cM) L sz f [.ref v, .int (zI num), .int (zI i), .int (zI j), .int (zI n), .ref s] (fun g => g = va_up f (v + 2) (zA cI 25 (zadf p num x y i j n c))) := by
  refine zWalk.met (nL := 7) (ret := none) (cc := cX10_addFar) (by decide) rfl (Nat.le_of_ble_eq_true rfl) ?_
  intro pg en st mi ag bl mt cd ls CX hW hl
  have CX : zC pg st mi ag mt cd cX10_addFar 7 none RX10 wsX10_addFar := CX
  generalize hQ : MQ bl _ ag st 0 0 _ = Q
  have hX0 := CX.1
  have hB0 := CX.2.1
  have hl : lv_has ls 7 [(0, .ref v), (1, .int (zI num)), (2, .int (zI i)), (3, .int (zI j)), (4, .int (zI n)), (5, .ref s)] := hl
  obtain ⟨H, eH⟩ : ∃ H, H = st.heap := ⟨_, rfl⟩
  obtain ⟨locs, eL⟩ : ∃ L : List Loc, L = [] := ⟨_, rfl⟩
  have hW : zW D (zT cI cJ cZ cP cS cM) L (zQ L sz) st f st.heap H locs := by rw [eH, eL]; exact hW
  suffices hgo : W pg l en ({ frames := 3, cells := 0, slots := 0, locals := 69 } : Room) st mi ag bl mt cd H locs 0 0 Q (F0 mi 0 ls []) by rw [eH, eL] at hgo; exact hgo
  clear eH eL
  refine lv_aload hX0 hB0 dX10_addFar_0 (lv_at hl 5 rfl) ?_
  refine z_get (Cn := RX9) (T := TX9) (N := 3) CX hW (v := .int (zI x)) hs0 rfl (fun w h => List.mem_cons_of_mem _ (List.mem_append_left _ (List.mem_append_left _ (List.mem_append_right _ h)))) 0 (by decide) (List.mem_of_getElem? (i := 1) rfl) rfl rfl dX10_addFar_2 ?_
  refine z_if_ne (tgt := 28) CX dX10_addFar_5 (by decide) (by constructor <;> omega) (fun c_5 => ?_) (fun c_5 => ?_)
  ·
    refine lv_iconst (v := zI 0) hX0 hB0 dX10_addFar_28 rfl ?_
    refine lv_istore (lv' := [(6, .int (zI 0)), (0, .ref v), (1, .int (zI num)), (2, .int (zI i)), (3, .int (zI j)), (4, .int (zI n)), (5, .ref s)]) hX0 hB0 dX10_addFar_29 hl (by decide) rfl (fun ls hl => ?_)
    have hL31 : ∀ (fu : Nat) (b : Int) (cc : Nat → Int), (0 ≤ b ∧ (b ≤ j + 1 ∨ b = 0) ∧ cc = zfor (zadf_in p num y j (n - i - j)) 0 c (b - 0).toNat ∧ zcan p cc) → (j + 1 - b).toNat < fu → ∀ (H : Heap) (locs : List Loc) (ls : Array Slot), zW D (zT cI cJ cZ cP cS cM) L (zQ L sz) st (va_up f (v + 2) (zA cI 25 cc)) st.heap H locs → lv_has ls 7 [(6, .int (zI b)), (0, .ref v), (1, .int (zI num)), (2, .int (zI i)), (3, .int (zI j)), (4, .int (zI n)), (5, .ref s)] → W pg l en ({ frames := 3, cells := 0, slots := 0, locals := 69 } : Room) st mi ag bl mt cd H locs 0 0 Q (F0 mi 31 ls []) := by
      intro fu
      induction fu with
      | zero => intro b cc _ hfu; exact absurd hfu (Nat.not_lt_zero _)
      | succ fu ih31 =>
        intro b cc hinv31 hfu31 H locs ls hW hl
        obtain ⟨hb0, hb1, hecc, hcc⟩ := hinv31
        refine lv_iload hX0 hB0 dX10_addFar_31 (lv_at hl 0 rfl) ?_
        refine lv_iload_n hX0 hB0 dX10_addFar_33 rfl (lv_at hl 4 rfl) ?_
        refine z_icmp_gt (tgt := 76) CX dX10_addFar_34 (by decide) (by constructor <;> omega) (by constructor <;> omega) (fun c_34 => ?_) (fun c_34 => ?_)
        ·
          rw [← hQ]
          exact z_vret CX hW (by unfold zadf; rw [if_neg (by omega), hecc, show (b - 0).toNat = (j + 1 - 0).toNat by omega]) dX10_addFar_76
        ·
          refine lv_aload_n hX0 hB0 dX10_addFar_37 rfl (lv_at hl 1 rfl) ?_
          refine z_get (Cn := RX10) (T := TX10) (N := 3) CX hW (v := .ref (v + 1)) ((va_up_ne _ _ (by omega)).trans hv0) rfl (fun w h => List.mem_cons_of_mem _ (List.mem_append_left _ (List.mem_append_right _ h))) 0 (by decide) (List.mem_of_getElem? (i := 2) rfl) rfl rfl dX10_addFar_38 ?_
          refine lv_iload hX0 hB0 dX10_addFar_41 (lv_at hl 0 rfl) ?_
          refine lv_iload hX0 hB0 dX10_addFar_43 (lv_at hl 5 rfl) ?_
          refine lv_iload_n hX0 hB0 dX10_addFar_45 rfl (lv_at hl 3 rfl) ?_
          refine z_isub (z := n - i) CX dX10_addFar_46 rfl ?_
          refine lv_iload_n hX0 hB0 dX10_addFar_47 rfl (lv_at hl 4 rfl) ?_
          refine z_isub (z := (n - i) - j) CX dX10_addFar_48 rfl ?_
          refine lv_iload_n hX0 hB0 dX10_addFar_49 rfl (lv_at hl 2 rfl) ?_
          refine lv_aload_n hX0 hB0 dX10_addFar_50 rfl (lv_at hl 1 rfl) ?_
          refine lv_aload hX0 hB0 dX10_addFar_51 (lv_at hl 6 rfl) ?_
          refine z_get (Cn := RX9) (T := TX9) (N := 3) CX hW (v := .int (zI y)) ((va_up_ne _ _ (by omega)).trans hs0) rfl (fun w h => List.mem_cons_of_mem _ (List.mem_append_left _ (List.mem_append_left _ (List.mem_append_right _ h)))) 1 (by decide) (List.mem_of_getElem? (i := 4) rfl) rfl rfl dX10_addFar_53 ?_
          refine lv_iload_n hX0 hB0 dX10_addFar_56 rfl (lv_at hl 4 rfl) ?_
          refine lv_iload hX0 hB0 dX10_addFar_57 (lv_at hl 0 rfl) ?_
          refine z_calli hW (va_runV (C := RX10) (As := [.int (zI y), .int (zI j), .int (zI b)]) (rest := [.int (zI num), .int (zI ((n - i) - j)), .int (zI b), .ref (v + 1)]) CX.fix (c_shifted l (f := va_up f (v + 2) (zA cI 25 cc)) v p y j b (v + 1) (v + 3) ((va_up_ne _ _ (by omega)).trans hv0) (by constructor <;> omega) (by constructor <;> omega) (by constructor <;> omega) (by constructor <;> omega)) (cwV 3 CX.fix.2.2.2.2 gX10_addFar_X10_shifted rfl rfl rfl (by decide +kernel) ⟨Nat.le_of_ble_eq_true rfl, Nat.le_of_ble_eq_true rfl⟩) (z_preV CX hW (r := (RX10, TX10, 3)) ((va_up_ne _ _ (by omega)).trans hv0) rfl) rfl rfl hl.1 rfl (lv_room (Nat.le_of_ble_eq_true rfl)) dX10_addFar_59 ⟨Nat.zero_le _, Nat.zero_le _⟩) (fun zv gn H locs hok59 hW => ?_)
          obtain ⟨ez, eg⟩ := hok59
          have eg : gn = va_up f (v + 2) (zA cI 25 cc) := eg
          rw [eg] at hW
          clear eg
          have ez : zv = zsh p y j b := ez
          rw [ez]
          clear ez
          have hsh59 := zsh_rng y j b (p := p) (by omega)
          have hmu59 := zmul_rng (a := num) (b := zsh p y j b) (A := 31) (B := 31) (by omega) (by omega)
          refine z_imul (z := num * (zsh p y j b)) CX dX10_addFar_62 rfl ?_
          refine lv_aload_n hX0 hB0 dX10_addFar_63 rfl (lv_at hl 1 rfl) ?_
          refine z_get (Cn := RX10) (T := TX10) (N := 3) CX hW (v := .int (zI p)) ((va_up_ne _ _ (by omega)).trans hv0) rfl (fun w h => List.mem_cons_of_mem _ (List.mem_append_left _ (List.mem_append_right _ h))) 2 (by decide) (List.mem_of_getElem? (i := 3) rfl) rfl rfl dX10_addFar_64 ?_
          refine z_callv hW (va_runV (C := RX2) (As := [.int (zI b), .int (zI ((n - i) - j)), .int (zI (num * (zsh p y j b))), .int (zI p)]) (rest := []) CX.fix (c_increase l (f := va_up f (v + 2) (zA cI 25 cc)) (v + 1) (v + 2) cc b ((n - i) - j) (num * (zsh p y j b)) p ((va_up_ne _ _ (by omega)).trans hv1) (va_up_self _ _ _) (by assumption) (by constructor <;> omega) (by constructor <;> omega) (by constructor <;> omega) (by constructor <;> omega)) (cwV 4 CX.fix.2.2.2.2 gX10_addFar_X2_increase rfl rfl rfl (by decide +kernel) ⟨Nat.le_of_ble_eq_true rfl, Nat.le_of_ble_eq_true rfl⟩) (z_preV CX hW (r := (RX2, TX2, 1)) ((va_up_ne _ _ (by omega)).trans hv1) rfl) rfl rfl hl.1 rfl (lv_room (Nat.le_of_ble_eq_true rfl)) dX10_addFar_67 ⟨Nat.zero_le _, Nat.zero_le _⟩) (fun gn H locs hok67 hW => ?_)
          have eg : gn = va_up f (v + 2) (zA cI 25 (zput cc b ((n - i) - j) ((zat cc b ((n - i) - j) + (num * (zsh p y j b))) % p))) := (hok67).trans va_up_up
          rw [eg] at hW
          clear eg
          refine lv_iinc (v := zI (b + 1)) (lv' := [(6, .int (zI (b + 1))), (0, .ref v), (1, .int (zI num)), (2, .int (zI i)), (3, .int (zI j)), (4, .int (zI n)), (5, .ref s)]) hX0 hB0 dX10_addFar_70 hl (k := 0) rfl (zI_add _ _) (by decide) rfl (fun ls hl => ?_)
          refine lv_goto (tgt := 31) hX0 hB0 dX10_addFar_73 (by decide) ?_
          exact ih31 (b + 1) (zput cc b ((n - i) - j) ((zat cc b ((n - i) - j) + (num * (zsh p y j b))) % p)) ⟨by omega, by omega, by rw [zfor_s _ _ _ hb0, ← hecc]; rfl, zcan_put hcc _ _ (zmr _ (by omega))⟩ (by omega) H locs ls hW (lv_sub hl [0, 1, 2, 3, 4, 5, 6] rfl)
    have hW := hW
    rw [show f = va_up f (v + 2) (zA cI 25 c) from by rw [va_up_id (a := (v + 2)) hv2]] at hW
    exact hL31 _ 0 c ⟨by omega, Or.inr rfl, (zfor_0 _ _ _).symm, hc⟩ (Nat.lt_succ_self _) H locs ls hW (lv_sub hl [0, 1, 2, 3, 4, 5, 6] rfl)
  ·
    refine lv_aload_n hX0 hB0 dX10_addFar_8 rfl (lv_at hl 0 rfl) ?_
    refine z_get (Cn := RX10) (T := TX10) (N := 3) CX hW (v := .ref (v + 1)) hv0 rfl (fun w h => List.mem_cons_of_mem _ (List.mem_append_left _ (List.mem_append_right _ h))) 0 (by decide) (List.mem_of_getElem? (i := 2) rfl) rfl rfl dX10_addFar_9 ?_
    refine lv_iload_n hX0 hB0 dX10_addFar_12 rfl (lv_at hl 2 rfl) ?_
    refine lv_iload hX0 hB0 dX10_addFar_13 (lv_at hl 4 rfl) ?_
    refine lv_iload_n hX0 hB0 dX10_addFar_15 rfl (lv_at hl 2 rfl) ?_
    refine z_isub (z := n - i) CX dX10_addFar_16 rfl ?_
    refine lv_iload_n hX0 hB0 dX10_addFar_17 rfl (lv_at hl 3 rfl) ?_
    refine z_isub (z := (n - i) - j) CX dX10_addFar_18 rfl ?_
    refine lv_iload_n hX0 hB0 dX10_addFar_19 rfl (lv_at hl 1 rfl) ?_
    refine lv_aload_n hX0 hB0 dX10_addFar_20 rfl (lv_at hl 0 rfl) ?_
    refine z_get (Cn := RX10) (T := TX10) (N := 3) CX hW (v := .int (zI p)) hv0 rfl (fun w h => List.mem_cons_of_mem _ (List.mem_append_left _ (List.mem_append_right _ h))) 2 (by decide) (List.mem_of_getElem? (i := 3) rfl) rfl rfl dX10_addFar_21 ?_
    refine z_callv hW (va_runV (C := RX2) (As := [.int (zI i), .int (zI ((n - i) - j)), .int (zI num), .int (zI p)]) (rest := []) CX.fix (c_increase l (f := f) (v + 1) (v + 2) c i ((n - i) - j) num p hv1 hv2 (by assumption) (by constructor <;> omega) (by constructor <;> omega) (by constructor <;> omega) (by constructor <;> omega)) (cwV 4 CX.fix.2.2.2.2 gX10_addFar_X2_increase rfl rfl rfl (by decide +kernel) ⟨Nat.le_of_ble_eq_true rfl, Nat.le_of_ble_eq_true rfl⟩) (z_preV CX hW (r := (RX2, TX2, 1)) hv1 rfl) rfl rfl hl.1 rfl (lv_room (Nat.le_of_ble_eq_true rfl)) dX10_addFar_24 ⟨Nat.zero_le _, Nat.zero_le _⟩) (fun gn H locs hok24 hW => ?_)
    have eg : gn = va_up f (v + 2) (zA cI 25 (zput c i ((n - i) - j) ((zat c i ((n - i) - j) + num) % p))) := hok24
    rw [eg] at hW
    clear eg
    rw [← hQ]
    exact z_vret CX hW (by unfold zadf; rw [if_pos c_5]) dX10_addFar_27
set_option maxRecDepth 100000 in
set_option maxHeartbeats 4000000 in
/-- View.look -/
theorem c_look (l : Launch) {D : va_G} {cI cJ cZ cP cS cM : ClassId} {L : List Nat} {sz : Nat} {f : Nat → va_E} (v : Nat) (p0 : Int) (c lw : Nat → Int) (s : Nat) (x y z : Int) (h0 h : Nat) (d : Nat → Int) (p : Int) (hv0 : f v = .inr (10, [.ref (v + 1), .ref (v + 3), .int (zI p0)])) (hv1 : f (v + 1) = .inr (2, [.ref (v + 2)])) (hv2 : f (v + 2) = zA cI 25 c) (hv3 : f (v + 3) = zA cI 5 lw) (hp : 2 ≤ p ∧ p ≤ 31) (hs0 : f s = .inr (9, [.int (zI x), .int (zI y), .int (zI z)])) (hsd : s < v ∨ v + 4 ≤ s) (hx : 0 ≤ x ∧ x ≤ 31) (hy : 0 ≤ y ∧ y ≤ 31) (hz : 0 ≤ z ∧ z ≤ 1) (hf0 : f h0 = .inr (2, [.ref h])) (hf1 : f h = zA cI 25 d) (hd : zcan p d) (hh0 : h0 < v ∨ v + 4 ≤ h0) (hh : h < v ∨ v + 4 ≤ h) : zMv l yX10_look wsX10_look 4 96 D (zT cI cJ cZ cP cS cM) L sz f [.ref v, .ref h0, .ref s, .int (zI p)] (fun g => g = va_up (va_up f v (.inr (10, [.ref (v + 1), .ref (v + 3), .int (zI p)]))) (v + 2) (zA cI 25 (zlook d p x y z))) := by
  refine zWalk.met (nL := 8) (ret := none) (cc := cX10_look) (by decide) rfl (Nat.le_of_ble_eq_true rfl) ?_
  intro pg en st mi ag bl mt cd ls CX hW hl
  have CX : zC pg st mi ag mt cd cX10_look 8 none RX10 wsX10_look := CX
  generalize hQ : MQ bl _ ag st 0 0 _ = Q
  have hX0 := CX.1
  have hB0 := CX.2.1
  have hl : lv_has ls 8 [(0, .ref v), (1, .ref h0), (2, .ref s), (3, .int (zI p))] := hl
  obtain ⟨H, eH⟩ : ∃ H, H = st.heap := ⟨_, rfl⟩
  obtain ⟨locs, eL⟩ : ∃ L : List Loc, L = [] := ⟨_, rfl⟩
  have hW : zW D (zT cI cJ cZ cP cS cM) L (zQ L sz) st f st.heap H locs := by rw [eH, eL]; exact hW
  suffices hgo : W pg l en ({ frames := 4, cells := 0, slots := 0, locals := 96 } : Room) st mi ag bl mt cd H locs 0 0 Q (F0 mi 0 ls []) by rw [eH, eL] at hgo; exact hgo
  clear eH eL
  refine lv_aload_n hX0 hB0 dX10_look_0 rfl (lv_at hl 0 rfl) ?_
  refine lv_iload_n hX0 hB0 dX10_look_1 rfl (lv_at hl 3 rfl) ?_
  refine z_put (Cn := RX10) (T := TX10) (N := 3) CX hW (v := .int (zI p)) hv0 rfl (fun w h => List.mem_cons_of_mem _ (List.mem_append_left _ (List.mem_append_left _ (List.mem_append_right _ h)))) tyX10 tyX10_ok nmX10 2 (by decide) (List.mem_of_getElem? (i := 1) rfl) rfl rfl rfl rfl (Nat.le_of_ble_eq_true rfl) (g := va_up f v (.inr (10, [.ref (v + 1), .ref (v + 3), .int (zI p)]))) rfl dX10_look_2 (fun H locs hW => ?_)
  refine lv_aload_n hX0 hB0 dX10_look_5 rfl (lv_at hl 0 rfl) ?_
  refine z_get (Cn := RX10) (T := TX10) (N := 3) CX hW (v := .ref (v + 1)) (va_up_self _ _ _) rfl (fun w h => List.mem_cons_of_mem _ (List.mem_append_left _ (List.mem_append_left _ (List.mem_append_right _ h)))) 0 (by decide) (List.mem_of_getElem? (i := 2) rfl) rfl rfl dX10_look_6 ?_
  refine lv_iconst (v := zI 0) hX0 hB0 dX10_look_9 rfl ?_
  refine z_callv hW (va_runV (C := RX2) (As := [.int (zI 0)]) (rest := []) CX.fix (c_setTo l (f := va_up f v (.inr (10, [.ref (v + 1), .ref (v + 3), .int (zI p)]))) (v + 1) (v + 2) c 0 ((va_up_ne _ _ (by omega)).trans hv1) ((va_up_ne _ _ (by omega)).trans hv2)) (cwV 1 CX.fix.2.2.2.2 gX10_look_X2_setTo rfl rfl rfl (by decide +kernel) ⟨Nat.le_of_ble_eq_true rfl, Nat.le_of_ble_eq_true rfl⟩) (z_preV CX hW (r := (RX2, TX2, 1)) ((va_up_ne _ _ (by omega)).trans hv1) rfl) rfl rfl hl.1 rfl (lv_room (Nat.le_of_ble_eq_true rfl)) dX10_look_10 ⟨Nat.zero_le _, Nat.zero_le _⟩) (fun gn H locs hok10 hW => ?_)
  have eg : gn = va_up (va_up f v (.inr (10, [.ref (v + 1), .ref (v + 3), .int (zI p)]))) (v + 2) (zA cI 25 (zone 0)) := hok10
  rw [eg] at hW
  clear eg
  refine lv_aload_n hX0 hB0 dX10_look_13 rfl (lv_at hl 1 rfl) ?_
  refine z_calli hW (va_runV (C := RX2) (As := []) (rest := []) CX.fix (c_top l (f := va_up (va_up f v (.inr (10, [.ref (v + 1), .ref (v + 3), .int (zI p)]))) (v + 2) (zA cI 25 (zone 0))) h0 h d ((va_up_ne _ _ (by omega)).trans ((va_up_ne _ _ (by omega)).trans hf0)) ((va_up_ne _ _ (by omega)).trans ((va_up_ne _ _ (by omega)).trans hf1)) (by exact zcan_le hd (by omega))) (cwV 0 CX.fix.2.2.2.2 gX10_look_X2_top rfl rfl rfl (by decide +kernel) ⟨Nat.le_of_ble_eq_true rfl, Nat.le_of_ble_eq_true rfl⟩) (z_preV CX hW (r := (RX2, TX2, 1)) ((va_up_ne _ _ (by omega)).trans ((va_up_ne _ _ (by omega)).trans hf0)) rfl) rfl rfl hl.1 rfl (lv_room (Nat.le_of_ble_eq_true rfl)) dX10_look_14 ⟨Nat.zero_le _, Nat.zero_le _⟩) (fun zv gn H locs hok14 hW => ?_)
  obtain ⟨ez, eg⟩ := hok14
  have eg : gn = va_up (va_up f v (.inr (10, [.ref (v + 1), .ref (v + 3), .int (zI p)]))) (v + 2) (zA cI 25 (zone 0)) := eg
  rw [eg] at hW
  clear eg
  have ez : zv = ztop d := ez
  rw [ez]
  clear ez
  have htp14 := ztop_rng d
  have htd := ztop_rng d
  refine lv_istore (lv' := [(4, .int (zI (ztop d))), (0, .ref v), (1, .ref h0), (2, .ref s), (3, .int (zI p))]) hX0 hB0 dX10_look_17 hl (by decide) rfl (fun ls hl => ?_)
  refine lv_iconst (v := zI 0) hX0 hB0 dX10_look_19 rfl ?_
  refine lv_istore (lv' := [(5, .int (zI 0)), (4, .int (zI (ztop d))), (0, .ref v), (1, .ref h0), (2, .ref s), (3, .int (zI p))]) hX0 hB0 dX10_look_20 hl (by decide) rfl (fun ls hl => ?_)
  have hL22 : ∀ (fu : Nat) (i : Int) (co : Nat → Int), (0 ≤ i ∧ (i ≤ 5 ∨ i = 0) ∧ co = zfor (zlook_out d p x y z (ztop d)) 0 (zone 0) (i - 0).toNat ∧ zcan p co) → (5 - i).toNat < fu → ∀ (H : Heap) (locs : List Loc) (ls : Array Slot), zW D (zT cI cJ cZ cP cS cM) L (zQ L sz) st (va_up (va_up f v (.inr (10, [.ref (v + 1), .ref (v + 3), .int (zI p)]))) (v + 2) (zA cI 25 co)) st.heap H locs → lv_has ls 8 [(5, .int (zI i)), (4, .int (zI (ztop d))), (0, .ref v), (1, .ref h0), (2, .ref s), (3, .int (zI p))] → W pg l en ({ frames := 4, cells := 0, slots := 0, locals := 96 } : Room) st mi ag bl mt cd H locs 0 0 Q (F0 mi 22 ls []) := by
    intro fu
    induction fu with
    | zero => intro i co _ hfu; exact absurd hfu (Nat.not_lt_zero _)
    | succ fu ih22 =>
      intro i co hinv22 hfu22 H locs ls hW hl
      obtain ⟨hi0, hi1, heco, hco⟩ := hinv22
      refine lv_iload hX0 hB0 dX10_look_22 (lv_at hl 0 rfl) ?_
      refine lv_iconst (v := zI 4) hX0 hB0 dX10_look_24 rfl ?_
      refine z_icmp_gt (tgt := 105) CX dX10_look_25 (by decide) (by constructor <;> omega) (by constructor <;> omega) (fun c_25 => ?_) (fun c_25 => ?_)
      ·
        rw [← hQ]
        exact z_vret CX hW (by rw [heco, show (i - 0).toNat = (5 - 0 : Int).toNat by omega]; rfl) dX10_look_105
      ·
        refine lv_iconst (v := zI 0) hX0 hB0 dX10_look_28 rfl ?_
        refine lv_istore (lv' := [(6, .int (zI 0)), (5, .int (zI i)), (4, .int (zI (ztop d))), (0, .ref v), (1, .ref h0), (2, .ref s), (3, .int (zI p))]) hX0 hB0 dX10_look_29 hl (by decide) rfl (fun ls hl => ?_)
        have hL31 : ∀ (fu : Nat) (j : Int) (cc : Nat → Int), (0 ≤ j ∧ (j ≤ 4 - i + 1 ∨ j = 0) ∧ cc = zfor (zlook_in d p x y z (ztop d) i) 0 co (j - 0).toNat ∧ zcan p cc) → (4 - i + 1 - j).toNat < fu → ∀ (H : Heap) (locs : List Loc) (ls : Array Slot), zW D (zT cI cJ cZ cP cS cM) L (zQ L sz) st (va_up (va_up f v (.inr (10, [.ref (v + 1), .ref (v + 3), .int (zI p)]))) (v + 2) (zA cI 25 cc)) st.heap H locs → lv_has ls 8 [(6, .int (zI j)), (5, .int (zI i)), (4, .int (zI (ztop d))), (0, .ref v), (1, .ref h0), (2, .ref s), (3, .int (zI p))] → W pg l en ({ frames := 4, cells := 0, slots := 0, locals := 96 } : Room) st mi ag bl mt cd H locs 0 0 Q (F0 mi 31 ls []) := by
          intro fu
          induction fu with
          | zero => intro j cc _ hfu; exact absurd hfu (Nat.not_lt_zero _)
          | succ fu ih31 =>
            intro j cc hinv31 hfu31 H locs ls hW hl
            obtain ⟨hj0, hj1, hecc, hcc⟩ := hinv31
            refine lv_iload hX0 hB0 dX10_look_31 (lv_at hl 0 rfl) ?_
            refine lv_iconst (v := zI 4) hX0 hB0 dX10_look_33 rfl ?_
            refine lv_iload hX0 hB0 dX10_look_34 (lv_at hl 1 rfl) ?_
            refine z_isub (z := 4 - i) CX dX10_look_36 rfl ?_
            refine z_icmp_gt (tgt := 99) CX dX10_look_37 (by decide) (by constructor <;> omega) (by constructor <;> omega) (fun c_37 => ?_) (fun c_37 => ?_)
            ·
              refine lv_iinc (v := zI (i + 1)) (lv' := [(5, .int (zI (i + 1))), (6, .int (zI j)), (4, .int (zI (ztop d))), (0, .ref v), (1, .ref h0), (2, .ref s), (3, .int (zI p))]) hX0 hB0 dX10_look_99 hl (k := 1) rfl (zI_add _ _) (by decide) rfl (fun ls hl => ?_)
              refine lv_goto (tgt := 22) hX0 hB0 dX10_look_102 (by decide) ?_
              exact ih22 (i + 1) cc ⟨by omega, by omega, by rw [zfor_s _ _ _ hi0, ← heco]; rw [hecc]; show zfor _ 0 co _ = zfor _ 0 co _; congr 1; omega, hcc⟩ (by omega) H locs ls hW (lv_sub hl [0, 2, 3, 4, 5, 6] rfl)
            ·
              refine lv_aload_n hX0 hB0 dX10_look_40 rfl (lv_at hl 4 rfl) ?_
              refine lv_iload hX0 hB0 dX10_look_41 (lv_at hl 1 rfl) ?_
              refine lv_iload hX0 hB0 dX10_look_43 (lv_at hl 0 rfl) ?_
              refine z_calli hW (va_runV (C := RX2) (As := [.int (zI i), .int (zI j)]) (rest := []) CX.fix (c_at l (f := va_up (va_up f v (.inr (10, [.ref (v + 1), .ref (v + 3), .int (zI p)]))) (v + 2) (zA cI 25 cc)) h0 h d i j ((va_up_ne _ _ (by omega)).trans ((va_up_ne _ _ (by omega)).trans hf0)) ((va_up_ne _ _ (by omega)).trans ((va_up_ne _ _ (by omega)).trans hf1)) (by constructor <;> omega) (by constructor <;> omega)) (cwV 2 CX.fix.2.2.2.2 gX10_look_X2_at rfl rfl rfl (by decide +kernel) ⟨Nat.le_of_ble_eq_true rfl, Nat.le_of_ble_eq_true rfl⟩) (z_preV CX hW (r := (RX2, TX2, 1)) ((va_up_ne _ _ (by omega)).trans ((va_up_ne _ _ (by omega)).trans hf0)) rfl) rfl rfl hl.1 rfl (lv_room (Nat.le_of_ble_eq_true rfl)) dX10_look_45 ⟨Nat.zero_le _, Nat.zero_le _⟩) (fun zv gn H locs hok45 hW => ?_)
              obtain ⟨ez, eg⟩ := hok45
              have eg : gn = va_up (va_up f v (.inr (10, [.ref (v + 1), .ref (v + 3), .int (zI p)]))) (v + 2) (zA cI 25 cc) := eg
              rw [eg] at hW
              clear eg
              have ez : zv = zat d i j := ez
              rw [ez]
              clear ez
              have hat := zat_can (p := p) (by omega) hd i j
              refine lv_istore (lv' := [(7, .int (zI (zat d i j))), (6, .int (zI j)), (5, .int (zI i)), (4, .int (zI (ztop d))), (0, .ref v), (1, .ref h0), (2, .ref s), (3, .int (zI p))]) hX0 hB0 dX10_look_48 hl (by decide) rfl (fun ls hl => ?_)
              refine lv_iload hX0 hB0 dX10_look_50 (lv_at hl 0 rfl) ?_
              refine z_if_ne (tgt := 58) CX dX10_look_52 (by decide) (by constructor <;> omega) (fun c_52 => ?_) (fun c_52 => ?_)
              ·
                refine lv_aload_n hX0 hB0 dX10_look_58 rfl (lv_at hl 6 rfl) ?_
                refine z_get (Cn := RX9) (T := TX9) (N := 3) CX hW (v := .int (zI z)) ((va_up_ne _ _ (by omega)).trans ((va_up_ne _ _ (by omega)).trans hs0)) rfl (fun w h => List.mem_cons_of_mem _ (List.mem_append_left _ (List.mem_append_right _ h))) 2 (by decide) (List.mem_of_getElem? (i := 3) rfl) rfl rfl dX10_look_59 ?_
                refine lv_iconst (v := zI 1) hX0 hB0 dX10_look_62 rfl ?_
                refine z_icmp_ne (tgt := 80) CX dX10_look_63 (by decide) (by constructor <;> omega) (by constructor <;> omega) (fun c_63 => ?_) (fun c_63 => ?_)
                ·
                  refine lv_aload_n hX0 hB0 dX10_look_80 rfl (lv_at hl 4 rfl) ?_
                  refine lv_iload hX0 hB0 dX10_look_81 (lv_at hl 0 rfl) ?_
                  refine lv_iload hX0 hB0 dX10_look_83 (lv_at hl 2 rfl) ?_
                  refine lv_iload hX0 hB0 dX10_look_85 (lv_at hl 1 rfl) ?_
                  refine lv_iload hX0 hB0 dX10_look_87 (lv_at hl 3 rfl) ?_
                  refine lv_aload_n hX0 hB0 dX10_look_89 rfl (lv_at hl 6 rfl) ?_
                  refine z_callv hW (va_runV (C := RX10) (As := [.int (zI (zat d i j)), .int (zI i), .int (zI j), .int (zI (ztop d)), .ref s]) (rest := []) CX.fix (c_addFar l (f := va_up (va_up f v (.inr (10, [.ref (v + 1), .ref (v + 3), .int (zI p)]))) (v + 2) (zA cI 25 cc)) v p cc lw s x y z (zat d i j) i j (ztop d) ((va_up_ne _ _ (by omega)).trans (va_up_self _ _ _)) ((va_up_ne _ _ (by omega)).trans ((va_up_ne _ _ (by omega)).trans hv1)) (va_up_self _ _ _) ((va_up_ne _ _ (by omega)).trans ((va_up_ne _ _ (by omega)).trans hv3)) (by omega) ((va_up_ne _ _ (by omega)).trans ((va_up_ne _ _ (by omega)).trans hs0)) (by omega) (by omega) (by omega) (by assumption) (by omega) (by omega) (by omega) (by omega)) (cwV 5 CX.fix.2.2.2.2 gX10_look_X10_addFar rfl rfl rfl (by decide +kernel) ⟨Nat.le_of_ble_eq_true rfl, Nat.le_of_ble_eq_true rfl⟩) (z_preV CX hW (r := (RX10, TX10, 3)) ((va_up_ne _ _ (by omega)).trans (va_up_self _ _ _)) rfl) rfl rfl hl.1 rfl (lv_room (Nat.le_of_ble_eq_true rfl)) dX10_look_90 ⟨Nat.zero_le _, Nat.zero_le _⟩) (fun gn H locs hok90 hW => ?_)
                  have eg : gn = va_up (va_up f v (.inr (10, [.ref (v + 1), .ref (v + 3), .int (zI p)]))) (v + 2) (zA cI 25 (zadf p (zat d i j) x y i j (ztop d) cc)) := (hok90).trans va_up_up
                  rw [eg] at hW
                  clear eg
                  refine lv_iinc (v := zI (j + 1)) (lv' := [(6, .int (zI (j + 1))), (7, .int (zI (zat d i j))), (5, .int (zI i)), (4, .int (zI (ztop d))), (0, .ref v), (1, .ref h0), (2, .ref s), (3, .int (zI p))]) hX0 hB0 dX10_look_93 hl (k := 1) rfl (zI_add _ _) (by decide) rfl (fun ls hl => ?_)
                  refine lv_goto (tgt := 31) hX0 hB0 dX10_look_96 (by decide) ?_
                  exact ih31 (j + 1) (zadf p (zat d i j) x y i j (ztop d) cc) ⟨by omega, by omega, by rw [zfor_s _ _ _ hj0, ← hecc]; unfold zlook_in; first | rw [if_pos (by omega)] | (rw [if_neg c_52, if_pos c_63]) | (rw [if_neg c_52, if_neg (by omega)]), by first | exact hcc | exact zadn_can (by omega) hcc | exact zadf_can (by omega) hcc⟩ (by omega) H locs ls hW (lv_sub hl [0, 2, 3, 4, 5, 6, 7] rfl)
                ·
                  refine lv_aload_n hX0 hB0 dX10_look_66 rfl (lv_at hl 4 rfl) ?_
                  refine lv_iload hX0 hB0 dX10_look_67 (lv_at hl 0 rfl) ?_
                  refine lv_iload hX0 hB0 dX10_look_69 (lv_at hl 2 rfl) ?_
                  refine lv_iload hX0 hB0 dX10_look_71 (lv_at hl 1 rfl) ?_
                  refine lv_aload_n hX0 hB0 dX10_look_73 rfl (lv_at hl 6 rfl) ?_
                  refine z_callv hW (va_runV (C := RX10) (As := [.int (zI (zat d i j)), .int (zI i), .int (zI j), .ref s]) (rest := []) CX.fix (c_addNear l (f := va_up (va_up f v (.inr (10, [.ref (v + 1), .ref (v + 3), .int (zI p)]))) (v + 2) (zA cI 25 cc)) v p cc lw s x y z (zat d i j) i j ((va_up_ne _ _ (by omega)).trans (va_up_self _ _ _)) ((va_up_ne _ _ (by omega)).trans ((va_up_ne _ _ (by omega)).trans hv1)) (va_up_self _ _ _) ((va_up_ne _ _ (by omega)).trans ((va_up_ne _ _ (by omega)).trans hv3)) (by omega) ((va_up_ne _ _ (by omega)).trans ((va_up_ne _ _ (by omega)).trans hs0)) (by omega) (by omega) (by omega) (by assumption) (by omega) (by omega) (by omega)) (cwV 4 CX.fix.2.2.2.2 gX10_look_X10_addNear rfl rfl rfl (by decide +kernel) ⟨Nat.le_of_ble_eq_true rfl, Nat.le_of_ble_eq_true rfl⟩) (z_preV CX hW (r := (RX10, TX10, 3)) ((va_up_ne _ _ (by omega)).trans (va_up_self _ _ _)) rfl) rfl rfl hl.1 rfl (lv_room (Nat.le_of_ble_eq_true rfl)) dX10_look_74 ⟨Nat.zero_le _, Nat.zero_le _⟩) (fun gn H locs hok74 hW => ?_)
                  have eg : gn = va_up (va_up f v (.inr (10, [.ref (v + 1), .ref (v + 3), .int (zI p)]))) (v + 2) (zA cI 25 (zadn p (zat d i j) x y i j cc)) := (hok74).trans va_up_up
                  rw [eg] at hW
                  clear eg
                  refine lv_goto (tgt := 93) hX0 hB0 dX10_look_77 (by decide) ?_
                  refine lv_iinc (v := zI (j + 1)) (lv' := [(6, .int (zI (j + 1))), (7, .int (zI (zat d i j))), (5, .int (zI i)), (4, .int (zI (ztop d))), (0, .ref v), (1, .ref h0), (2, .ref s), (3, .int (zI p))]) hX0 hB0 dX10_look_93 hl (k := 1) rfl (zI_add _ _) (by decide) rfl (fun ls hl => ?_)
                  refine lv_goto (tgt := 31) hX0 hB0 dX10_look_96 (by decide) ?_
                  exact ih31 (j + 1) (zadn p (zat d i j) x y i j cc) ⟨by omega, by omega, by rw [zfor_s _ _ _ hj0, ← hecc]; unfold zlook_in; first | rw [if_pos (by omega)] | (rw [if_neg c_52, if_pos c_63]) | (rw [if_neg c_52, if_neg (by omega)]), by first | exact hcc | exact zadn_can (by omega) hcc | exact zadf_can (by omega) hcc⟩ (by omega) H locs ls hW (lv_sub hl [0, 2, 3, 4, 5, 6, 7] rfl)
              ·
                refine lv_goto (tgt := 93) hX0 hB0 dX10_look_55 (by decide) ?_
                refine lv_iinc (v := zI (j + 1)) (lv' := [(6, .int (zI (j + 1))), (7, .int (zI (zat d i j))), (5, .int (zI i)), (4, .int (zI (ztop d))), (0, .ref v), (1, .ref h0), (2, .ref s), (3, .int (zI p))]) hX0 hB0 dX10_look_93 hl (k := 1) rfl (zI_add _ _) (by decide) rfl (fun ls hl => ?_)
                refine lv_goto (tgt := 31) hX0 hB0 dX10_look_96 (by decide) ?_
                exact ih31 (j + 1) cc ⟨by omega, by omega, by rw [zfor_s _ _ _ hj0, ← hecc]; unfold zlook_in; first | rw [if_pos (by omega)] | (rw [if_neg c_52, if_pos c_63]) | (rw [if_neg c_52, if_neg (by omega)]), by first | exact hcc | exact zadn_can (by omega) hcc | exact zadf_can (by omega) hcc⟩ (by omega) H locs ls hW (lv_sub hl [0, 2, 3, 4, 5, 6, 7] rfl)
        exact hL31 _ 0 co ⟨by omega, Or.inr rfl, (zfor_0 _ _ _).symm, hco⟩ (Nat.lt_succ_self _) H locs ls hW (lv_sub hl [0, 1, 2, 3, 4, 5, 6] rfl)
  exact hL22 _ 0 (zone 0) ⟨by omega, Or.inr rfl, (zfor_0 _ _ _).symm, zone_can (by omega) (by omega)⟩ (Nat.lt_succ_self _) H locs ls hW (lv_sub hl [0, 1, 2, 3, 4, 5] rfl)
set_option maxRecDepth 100000 in
set_option maxHeartbeats 4000000 in
/-- View.least -/
theorem c_least (l : Launch) {D : va_G} {cI cJ cZ cP cS cM : ClassId} {L : List Nat} {sz : Nat} {f : Nat → va_E} (v : Nat) (p : Int) (c lw : Nat → Int) (hv0 : f v = .inr (10, [.ref (v + 1), .ref (v + 3), .int (zI p)])) (hv1 : f (v + 1) = .inr (2, [.ref (v + 2)])) (hv2 : f (v + 2) = zA cI 25 c) (hv3 : f (v + 3) = zA cI 5 lw) (hp : 2 ≤ p ∧ p ≤ 31) (hc : zcan p c) : zMi l yX10_least wsX10_least 2 43 D (zT cI cJ cZ cP cS cM) L sz f [.ref v] (fun z g => z = zleast c ∧ g = f) := by
  refine zWalk.met (nL := 2) (ret := (some .int)) (cc := cX10_least) (by decide) rfl (Nat.le_of_ble_eq_true rfl) ?_
  intro pg en st mi ag bl mt cd ls CX hW hl
  have CX : zC pg st mi ag mt cd cX10_least 2 (some .int) RX10 wsX10_least := CX
  generalize hQ : MQ bl _ ag st 0 0 _ = Q
  have hX0 := CX.1
  have hB0 := CX.2.1
  have hl : lv_has ls 2 [(0, .ref v)] := hl
  obtain ⟨H, eH⟩ : ∃ H, H = st.heap := ⟨_, rfl⟩
  obtain ⟨locs, eL⟩ : ∃ L : List Loc, L = [] := ⟨_, rfl⟩
  have hW : zW D (zT cI cJ cZ cP cS cM) L (zQ L sz) st f st.heap H locs := by rw [eH, eL]; exact hW
  suffices hgo : W pg l en ({ frames := 2, cells := 0, slots := 0, locals := 43 } : Room) st mi ag bl mt cd H locs 0 0 Q (F0 mi 0 ls []) by rw [eH, eL] at hgo; exact hgo
  clear eH eL
  refine lv_iconst (v := zI 0) hX0 hB0 dX10_least_0 rfl ?_
  refine lv_istore_n (lv' := [(1, .int (zI 0)), (0, .ref v)]) hX0 hB0 dX10_least_1 rfl hl (by decide) rfl (fun ls hl => ?_)
  have hL2 : ∀ (fu : Nat) (d : Int), (0 ≤ d ∧ d ≤ 5 ∧ zleast c = zleastF c (5 - d).toNat d) → (5 - d).toNat < fu → ∀ (H : Heap) (locs : List Loc) (ls : Array Slot), zW D (zT cI cJ cZ cP cS cM) L (zQ L sz) st f st.heap H locs → lv_has ls 2 [(1, .int (zI d)), (0, .ref v)] → W pg l en ({ frames := 2, cells := 0, slots := 0, locals := 43 } : Room) st mi ag bl mt cd H locs 0 0 Q (F0 mi 2 ls []) := by
    intro fu
    induction fu with
    | zero => intro d _ hfu; exact absurd hfu (Nat.not_lt_zero _)
    | succ fu ih2 =>
      intro d hinv2 hfu2 H locs ls hW hl
      obtain ⟨hd0, hd1, hdz⟩ := hinv2
      refine lv_iload_n hX0 hB0 dX10_least_2 rfl (lv_at hl 0 rfl) ?_
      refine lv_iconst (v := zI 4) hX0 hB0 dX10_least_3 rfl ?_
      refine z_icmp_gt (tgt := 26) CX dX10_least_4 (by decide) (by constructor <;> omega) (by constructor <;> omega) (fun c_4 => ?_) (fun c_4 => ?_)
      ·
        refine lv_iconst (v := zI 4) hX0 hB0 dX10_least_26 rfl ?_
        rw [← hQ]
        exact z_iret (z := 4) CX hW (by exact ⟨by rw [hdz, show (5 - d).toNat = 0 by omega]; rfl, rfl⟩) rfl dX10_least_27
      ·
        refine lv_aload_n hX0 hB0 dX10_least_7 rfl (lv_at hl 1 rfl) ?_
        refine z_get (Cn := RX10) (T := TX10) (N := 3) CX hW (v := .ref (v + 1)) hv0 rfl (fun w h => List.mem_cons_of_mem _ (List.mem_append_left _ (List.mem_append_right _ h))) 0 (by decide) (List.mem_of_getElem? (i := 1) rfl) rfl rfl dX10_least_8 ?_
        refine lv_iload_n hX0 hB0 dX10_least_11 rfl (lv_at hl 0 rfl) ?_
        refine z_calli hW (va_runV (C := RX2) (As := [.int (zI d)]) (rest := []) CX.fix (c_leadAt l (f := f) (v + 1) (v + 2) c d hv1 hv2 (by first | assumption | exact zcan_le (by assumption) (by omega)) (by constructor <;> omega)) (cwV 1 CX.fix.2.2.2.2 gX10_least_X2_leadAt rfl rfl rfl (by decide +kernel) ⟨Nat.le_of_ble_eq_true rfl, Nat.le_of_ble_eq_true rfl⟩) (z_preV CX hW (r := (RX2, TX2, 1)) hv1 rfl) rfl rfl hl.1 rfl (lv_room (Nat.le_of_ble_eq_true rfl)) dX10_least_12 ⟨Nat.zero_le _, Nat.zero_le _⟩) (fun zv gn H locs hok12 hW => ?_)
        obtain ⟨ez, eg⟩ := hok12
        have eg : gn = f := eg
        rw [eg] at hW
        clear eg
        have ez : zv = zlead c d := ez
        rw [ez]
        clear ez
        have hld12 := zlead_rng c d (by omega)
        refine z_if_lt (tgt := 20) CX dX10_least_15 (by decide) (by constructor <;> omega) (fun c_15 => ?_) (fun c_15 => ?_)
        ·
          refine lv_iinc (v := zI (d + 1)) (lv' := [(1, .int (zI (d + 1))), (0, .ref v)]) hX0 hB0 dX10_least_20 hl (k := 0) rfl (zI_add _ _) (by decide) rfl (fun ls hl => ?_)
          refine lv_goto (tgt := 2) hX0 hB0 dX10_least_23 (by decide) ?_
          exact ih2 (d + 1) ⟨by omega, by omega, by rw [hdz, zleastF_s c (by omega), if_neg (by omega)]⟩ (by omega) H locs ls hW (lv_sub hl [0, 1] rfl)
        ·
          refine lv_iload_n hX0 hB0 dX10_least_18 rfl (lv_at hl 0 rfl) ?_
          rw [← hQ]
          exact z_iret (z := d) CX hW (by exact ⟨by rw [hdz, zleastF_s c (by omega), if_pos (by omega)], rfl⟩) rfl dX10_least_19
  exact hL2 _ 0 ⟨by omega, by omega, rfl⟩ (Nat.lt_succ_self _) H locs ls hW (lv_sub hl [0, 1] rfl)
set_option maxRecDepth 100000 in
set_option maxHeartbeats 4000000 in
/-- View.divideOnce -/
theorem c_divideOnce (l : Launch) {D : va_G} {cI cJ cZ cP cS cM : ClassId} {L : List Nat} {sz : Nat} {f : Nat → va_E} (v : Nat) (p : Int) (c lw : Nat → Int) (n w : Int) (hv0 : f v = .inr (10, [.ref (v + 1), .ref (v + 3), .int (zI p)])) (hv1 : f (v + 1) = .inr (2, [.ref (v + 2)])) (hv2 : f (v + 2) = zA cI 25 c) (hv3 : f (v + 3) = zA cI 5 lw) (hp : 2 ≤ p ∧ p ≤ 31) (hlw : zcan 31 lw) (hn : 0 ≤ n ∧ n ≤ 4) (hw : 0 ≤ w ∧ w ≤ 31) : zMi l yX10_divideOnce wsX10_divideOnce 1 22 D (zT cI cJ cZ cP cS cM) L sz f [.ref v, .int (zI n), .int (zI w)] (fun z g => z = (if zhorn lw w p n = 0 then 1 else 0) ∧ g = va_up f (v + 3) (zA cI 5 (zdivb lw w p n))) := by
  refine zWalk.met (nL := 6) (ret := (some .boolean)) (cc := cX10_divideOnce) (by decide) rfl (Nat.le_of_ble_eq_true rfl) ?_
  intro pg en st mi ag bl mt cd ls CX hW hl
  have CX : zC pg st mi ag mt cd cX10_divideOnce 6 (some .boolean) RX10 wsX10_divideOnce := CX
  generalize hQ : MQ bl _ ag st 0 0 _ = Q
  have hX0 := CX.1
  have hB0 := CX.2.1
  have hl : lv_has ls 6 [(0, .ref v), (1, .int (zI n)), (2, .int (zI w))] := hl
  obtain ⟨H, eH⟩ : ∃ H, H = st.heap := ⟨_, rfl⟩
  obtain ⟨locs, eL⟩ : ∃ L : List Loc, L = [] := ⟨_, rfl⟩
  have hW : zW D (zT cI cJ cZ cP cS cM) L (zQ L sz) st f st.heap H locs := by rw [eH, eL]; exact hW
  suffices hgo : W pg l en ({ frames := 1, cells := 0, slots := 0, locals := 22 } : Room) st mi ag bl mt cd H locs 0 0 Q (F0 mi 0 ls []) by rw [eH, eL] at hgo; exact hgo
  clear eH eL
  refine lv_iconst (v := zI 0) hX0 hB0 dX10_divideOnce_0 rfl ?_
  refine lv_istore_n (lv' := [(3, .int (zI 0)), (0, .ref v), (1, .int (zI n)), (2, .int (zI w))]) hX0 hB0 dX10_divideOnce_1 rfl hl (by decide) rfl (fun ls hl => ?_)
  refine lv_iload_n hX0 hB0 dX10_divideOnce_2 rfl (lv_at hl 2 rfl) ?_
  refine lv_istore (lv' := [(4, .int (zI n)), (3, .int (zI 0)), (0, .ref v), (1, .int (zI n)), (2, .int (zI w))]) hX0 hB0 dX10_divideOnce_3 hl (by decide) rfl (fun ls hl => ?_)
  have hL5 : ∀ (fu : Nat) (j : Int) (k : Int), (-1 ≤ j ∧ j ≤ n ∧ k = zforD (zhorn_s lw w p) n 0 (n - j).toNat ∧ 0 ≤ k ∧ k < p) → (j + 1).toNat < fu → ∀ (H : Heap) (locs : List Loc) (ls : Array Slot), zW D (zT cI cJ cZ cP cS cM) L (zQ L sz) st f st.heap H locs → lv_has ls 6 [(4, .int (zI j)), (3, .int (zI k)), (0, .ref v), (1, .int (zI n)), (2, .int (zI w))] → W pg l en ({ frames := 1, cells := 0, slots := 0, locals := 22 } : Room) st mi ag bl mt cd H locs 0 0 Q (F0 mi 5 ls []) := by
    intro fu
    induction fu with
    | zero => intro j k _ hfu; exact absurd hfu (Nat.not_lt_zero _)
    | succ fu ih5 =>
      intro j k hinv5 hfu5 H locs ls hW hl
      obtain ⟨hj0, hj1, hjk, hk0, hk1⟩ := hinv5
      refine lv_iload hX0 hB0 dX10_divideOnce_5 (lv_at hl 0 rfl) ?_
      refine z_if_lt (tgt := 41) CX dX10_divideOnce_7 (by decide) (by constructor <;> omega) (fun c_7 => ?_) (fun c_7 => ?_)
      ·
        refine lv_iload_n hX0 hB0 dX10_divideOnce_41 rfl (lv_at hl 1 rfl) ?_
        have hzk0 : zhorn lw w p n = k := by rw [hjk]; unfold zhorn; congr 1; omega
        refine z_if_eq (tgt := 47) CX dX10_divideOnce_42 (by decide) (by constructor <;> omega) (fun c_42 => ?_) (fun c_42 => ?_)
        ·
          have hzk : zhorn lw w p n = 0 := hzk0.trans c_42
          refine lv_iload_n hX0 hB0 dX10_divideOnce_47 rfl (lv_at hl 3 rfl) ?_
          refine lv_istore (lv' := [(4, .int (zI n)), (3, .int (zI k)), (0, .ref v), (1, .int (zI n)), (2, .int (zI w))]) hX0 hB0 dX10_divideOnce_48 hl (by decide) rfl (fun ls hl => ?_)
          have hL50 : ∀ (fu : Nat) (j : Int) (k : Int) (cl : Nat → Int), (zhorn lw w p n = 0 ∧ -1 ≤ j ∧ j ≤ n ∧ (cl, k) = zforD (zdiv_s w p) n (lw, 0) (n - j).toNat ∧ 0 ≤ k ∧ k < p ∧ zcan 31 cl) → (j + 1).toNat < fu → ∀ (H : Heap) (locs : List Loc) (ls : Array Slot), zW D (zT cI cJ cZ cP cS cM) L (zQ L sz) st (va_up f (v + 3) (zA cI 5 cl)) st.heap H locs → lv_has ls 6 [(4, .int (zI j)), (3, .int (zI k)), (0, .ref v), (1, .int (zI n)), (2, .int (zI w))] → W pg l en ({ frames := 1, cells := 0, slots := 0, locals := 22 } : Room) st mi ag bl mt cd H locs 0 0 Q (F0 mi 50 ls []) := by
            intro fu
            induction fu with
            | zero => intro j k cl _ hfu; exact absurd hfu (Nat.not_lt_zero _)
            | succ fu ih50 =>
              intro j k cl hinv50 hfu50 H locs ls hW hl
              obtain ⟨hz0, hj0, hj1, hjk, hk0, hk1, hcl⟩ := hinv50
              refine lv_iload hX0 hB0 dX10_divideOnce_50 (lv_at hl 0 rfl) ?_
              refine z_if_lt (tgt := 98) CX dX10_divideOnce_52 (by decide) (by constructor <;> omega) (fun c_52 => ?_) (fun c_52 => ?_)
              ·
                refine lv_iconst (v := zI 1) hX0 hB0 dX10_divideOnce_98 rfl ?_
                rw [← hQ]
                exact z_iret (z := 1) CX hW (by refine ⟨by rw [if_pos hz0], ?_⟩; unfold zdivb zdiv1; rw [if_pos hz0, show (n - -1).toNat = (n - j).toNat by omega, ← hjk]) rfl dX10_divideOnce_99
              ·
                refine lv_iload hX0 hB0 dX10_divideOnce_55 (lv_at hl 0 rfl) ?_
                refine lv_iconst (v := zI 4) hX0 hB0 dX10_divideOnce_57 rfl ?_
                refine z_icmp_gt (tgt := 98) CX dX10_divideOnce_58 (by decide) (by constructor <;> omega) (by constructor <;> omega) (fun c_58 => ?_) (fun c_58 => ?_)
                ·
                  omega
                ·
                  refine lv_aload_n hX0 hB0 dX10_divideOnce_61 rfl (lv_at hl 2 rfl) ?_
                  refine z_get (Cn := RX10) (T := TX10) (N := 3) CX hW (v := .ref (v + 3)) ((va_up_ne _ _ (by omega)).trans hv0) rfl (fun w h => List.mem_cons_of_mem _ (List.mem_append_right _ h)) 1 (by decide) (List.mem_of_getElem? (i := 1) rfl) rfl rfl dX10_divideOnce_62 ?_
                  refine lv_iload hX0 hB0 dX10_divideOnce_65 (lv_at hl 0 rfl) ?_
                  refine z_iald (z := cl j.toNat) CX hW (va_up_self _ _ _) 0 rfl (by refine ⟨?_, ?_, ?_⟩ <;> omega) rfl dX10_divideOnce_67 ?_
                  have hr1 := hcl j.toNat
                  have hlj := hcl j.toNat
                  have hmu67 := zmul_rng (a := k) (b := w) (A := 31) (B := 31) (by omega) (by omega)
                  refine lv_istore (lv' := [(5, .int (zI (cl j.toNat))), (4, .int (zI j)), (3, .int (zI k)), (0, .ref v), (1, .int (zI n)), (2, .int (zI w))]) hX0 hB0 dX10_divideOnce_68 hl (by decide) rfl (fun ls hl => ?_)
                  refine lv_aload_n hX0 hB0 dX10_divideOnce_70 rfl (lv_at hl 3 rfl) ?_
                  refine z_get (Cn := RX10) (T := TX10) (N := 3) CX hW (v := .ref (v + 3)) ((va_up_ne _ _ (by omega)).trans hv0) rfl (fun w h => List.mem_cons_of_mem _ (List.mem_append_right _ h)) 1 (by decide) (List.mem_of_getElem? (i := 1) rfl) rfl rfl dX10_divideOnce_71 ?_
                  refine lv_iload hX0 hB0 dX10_divideOnce_74 (lv_at hl 1 rfl) ?_
                  refine lv_iload_n hX0 hB0 dX10_divideOnce_76 rfl (lv_at hl 2 rfl) ?_
                  refine z_iast CX hW (va_up_self _ _ _) 0 rfl (by refine ⟨?_, ?_, ?_⟩ <;> omega) (g := va_up f (v + 3) (zA cI 5 (zup cl j.toNat k))) va_up_up dX10_divideOnce_77 (fun H locs hW => ?_)
                  refine lv_iload_n hX0 hB0 dX10_divideOnce_78 rfl (lv_at hl 2 rfl) ?_
                  refine lv_iload_n hX0 hB0 dX10_divideOnce_79 rfl (lv_at hl 5 rfl) ?_
                  refine z_imul (z := k * w) CX dX10_divideOnce_80 rfl ?_
                  refine lv_iload hX0 hB0 dX10_divideOnce_81 (lv_at hl 0 rfl) ?_
                  refine z_iadd (z := (k * w) + (cl j.toNat)) CX dX10_divideOnce_83 rfl ?_
                  refine lv_aload_n hX0 hB0 dX10_divideOnce_84 rfl (lv_at hl 3 rfl) ?_
                  refine z_get (Cn := RX10) (T := TX10) (N := 3) CX hW (v := .int (zI p)) ((va_up_ne _ _ (by omega)).trans hv0) rfl (fun w h => List.mem_cons_of_mem _ (List.mem_append_right _ h)) 2 (by decide) (List.mem_of_getElem? (i := 2) rfl) rfl rfl dX10_divideOnce_85 ?_
                  refine z_calli hW (va_runSN (As := [.int (zI ((k * w) + (cl j.toNat))), .int (zI p)]) (rest := []) CX.fix (c_mod l (f := va_up f (v + 3) (zA cI 5 (zup cl j.toNat k))) ((k * w) + (cl j.toNat)) p (by constructor <;> omega) (by constructor <;> omega)) ⟨va_cnB (own := RX10) (host := "CurveMeets") (index := 58) 2 CX.fix.2.2.2.2 ggX10_divideOnce_X11_mod rfl rfl rfl (CX.2.2.2.2.2.2.2.1 _ (by decide +kernel)) (CX.at (List.mem_of_getElem? (i := 4) rfl)) (by decide +kernel) ⟨Nat.le_of_ble_eq_true rfl, Nat.le_of_ble_eq_true rfl⟩, CX.at (List.mem_of_getElem? (i := 3) rfl), trivial⟩ (z_preS CX hW) rfl rfl hl.1 rfl (lv_room (Nat.le_of_ble_eq_true rfl)) dX10_divideOnce_88 ⟨Nat.zero_le _, Nat.zero_le _⟩) (fun zv gn H locs hok88 hW => ?_)
                  obtain ⟨ez, eg⟩ := hok88
                  have eg : gn = va_up f (v + 3) (zA cI 5 (zup cl j.toNat k)) := eg
                  rw [eg] at hW
                  clear eg
                  have ez : zv = ((k * w) + (cl j.toNat)) % p := ez
                  rw [ez]
                  clear ez
                  have hm88 := zmr ((k * w) + (cl j.toNat)) (p := p) (by omega)
                  refine lv_istore_n (lv' := [(3, .int (zI (((k * w) + (cl j.toNat)) % p))), (5, .int (zI (cl j.toNat))), (4, .int (zI j)), (0, .ref v), (1, .int (zI n)), (2, .int (zI w))]) hX0 hB0 dX10_divideOnce_91 rfl hl (by decide) rfl (fun ls hl => ?_)
                  refine lv_iinc (v := zI (j + (-1))) (lv' := [(4, .int (zI (j + (-1)))), (3, .int (zI (((k * w) + (cl j.toNat)) % p))), (5, .int (zI (cl j.toNat))), (0, .ref v), (1, .int (zI n)), (2, .int (zI w))]) hX0 hB0 dX10_divideOnce_92 hl (k := 2) rfl (zI_add _ _) (by decide) rfl (fun ls hl => ?_)
                  refine lv_goto (tgt := 50) hX0 hB0 dX10_divideOnce_95 (by decide) ?_
                  exact ih50 (j + (-1)) (((k * w) + (cl j.toNat)) % p) (zup cl j.toNat k) ⟨hz0, by omega, by omega, by rw [zforD_t _ _ _ hj1, ← hjk]; rfl, by omega, by omega, zcan_up hcl _ (by omega)⟩ (by omega) H locs ls hW (lv_sub hl [0, 1, 3, 4, 5] rfl)
          have hW := hW
          rw [show f = va_up f (v + 3) (zA cI 5 lw) from by rw [va_up_id (a := (v + 3)) hv3]] at hW
          exact hL50 _ n k lw ⟨hzk, by omega, by omega, by rw [c_42]; exact (zforD_0 _ _ _ (Int.le_refl _)).symm, by omega, by omega, hlw⟩ (Nat.lt_succ_self _) H locs ls hW (lv_sub hl [0, 1, 2, 3, 4] rfl)
        ·
          refine lv_iconst (v := zI 0) hX0 hB0 dX10_divideOnce_45 rfl ?_
          rw [← hQ]
          exact z_iret (z := 0) CX hW (by refine ⟨by rw [if_neg (by rw [hzk0]; exact c_42)], ?_⟩; unfold zdivb; rw [if_neg (by rw [hzk0]; exact c_42)]; exact (va_up_id hv3).symm) rfl dX10_divideOnce_46
      ·
        refine lv_iload hX0 hB0 dX10_divideOnce_10 (lv_at hl 0 rfl) ?_
        refine lv_iconst (v := zI 4) hX0 hB0 dX10_divideOnce_12 rfl ?_
        refine z_icmp_gt (tgt := 41) CX dX10_divideOnce_13 (by decide) (by constructor <;> omega) (by constructor <;> omega) (fun c_13 => ?_) (fun c_13 => ?_)
        ·
          omega
        ·
          refine lv_iload_n hX0 hB0 dX10_divideOnce_16 rfl (lv_at hl 1 rfl) ?_
          refine lv_iload_n hX0 hB0 dX10_divideOnce_17 rfl (lv_at hl 4 rfl) ?_
          refine z_imul (z := k * w) CX dX10_divideOnce_18 rfl ?_
          refine lv_aload_n hX0 hB0 dX10_divideOnce_19 rfl (lv_at hl 2 rfl) ?_
          refine z_get (Cn := RX10) (T := TX10) (N := 3) CX hW (v := .ref (v + 3)) hv0 rfl (fun w h => List.mem_cons_of_mem _ (List.mem_append_right _ h)) 1 (by decide) (List.mem_of_getElem? (i := 1) rfl) rfl rfl dX10_divideOnce_20 ?_
          refine lv_iload hX0 hB0 dX10_divideOnce_23 (lv_at hl 0 rfl) ?_
          refine z_iald (z := lw j.toNat) CX hW hv3 0 rfl (by refine ⟨?_, ?_, ?_⟩ <;> omega) rfl dX10_divideOnce_25 ?_
          have hr2 := hlw j.toNat
          have hlj := hlw j.toNat
          have hmu25 := zmul_rng (a := k) (b := w) (A := 31) (B := 31) (by omega) (by omega)
          refine z_iadd (z := (k * w) + (lw j.toNat)) CX dX10_divideOnce_26 rfl ?_
          refine lv_aload_n hX0 hB0 dX10_divideOnce_27 rfl (lv_at hl 2 rfl) ?_
          refine z_get (Cn := RX10) (T := TX10) (N := 3) CX hW (v := .int (zI p)) hv0 rfl (fun w h => List.mem_cons_of_mem _ (List.mem_append_right _ h)) 2 (by decide) (List.mem_of_getElem? (i := 2) rfl) rfl rfl dX10_divideOnce_28 ?_
          refine z_calli hW (va_runSN (As := [.int (zI ((k * w) + (lw j.toNat))), .int (zI p)]) (rest := []) CX.fix (c_mod l (f := f) ((k * w) + (lw j.toNat)) p (by constructor <;> omega) (by constructor <;> omega)) ⟨va_cnB (own := RX10) (host := "CurveMeets") (index := 58) 2 CX.fix.2.2.2.2 ggX10_divideOnce_X11_mod rfl rfl rfl (CX.2.2.2.2.2.2.2.1 _ (by decide +kernel)) (CX.at (List.mem_of_getElem? (i := 4) rfl)) (by decide +kernel) ⟨Nat.le_of_ble_eq_true rfl, Nat.le_of_ble_eq_true rfl⟩, CX.at (List.mem_of_getElem? (i := 3) rfl), trivial⟩ (z_preS CX hW) rfl rfl hl.1 rfl (lv_room (Nat.le_of_ble_eq_true rfl)) dX10_divideOnce_31 ⟨Nat.zero_le _, Nat.zero_le _⟩) (fun zv gn H locs hok31 hW => ?_)
          obtain ⟨ez, eg⟩ := hok31
          have eg : gn = f := eg
          rw [eg] at hW
          clear eg
          have ez : zv = ((k * w) + (lw j.toNat)) % p := ez
          rw [ez]
          clear ez
          have hm31 := zmr ((k * w) + (lw j.toNat)) (p := p) (by omega)
          refine lv_istore_n (lv' := [(3, .int (zI (((k * w) + (lw j.toNat)) % p))), (4, .int (zI j)), (0, .ref v), (1, .int (zI n)), (2, .int (zI w))]) hX0 hB0 dX10_divideOnce_34 rfl hl (by decide) rfl (fun ls hl => ?_)
          refine lv_iinc (v := zI (j + (-1))) (lv' := [(4, .int (zI (j + (-1)))), (3, .int (zI (((k * w) + (lw j.toNat)) % p))), (0, .ref v), (1, .int (zI n)), (2, .int (zI w))]) hX0 hB0 dX10_divideOnce_35 hl (k := 1) rfl (zI_add _ _) (by decide) rfl (fun ls hl => ?_)
          refine lv_goto (tgt := 5) hX0 hB0 dX10_divideOnce_38 (by decide) ?_
          exact ih5 (j + (-1)) (((k * w) + (lw j.toNat)) % p) ⟨by omega, by omega, by rw [zforD_t _ _ _ hj1, ← hjk]; rfl, by omega, by omega⟩ (by omega) H locs ls hW (lv_sub hl [0, 1, 2, 3, 4] rfl)
  exact hL5 _ n 0 ⟨by omega, by omega, (zforD_0 _ _ _ (Int.le_refl _)).symm, by omega, by omega⟩ (Nat.lt_succ_self _) H locs ls hW (lv_sub hl [0, 1, 2, 3, 4] rfl)
set_option maxRecDepth 100000 in
set_option maxHeartbeats 4000000 in
/-- View.oftenTangent -/
theorem c_oftenTangent (l : Launch) {D : va_G} {cI cJ cZ cP cS cM : ClassId} {L : List Nat} {sz : Nat} {f : Nat → va_E} (v : Nat) (p : Int) (c lw : Nat → Int) (w : Int) (hv0 : f v = .inr (10, [.ref (v + 1), .ref (v + 3), .int (zI p)])) (hv1 : f (v + 1) = .inr (2, [.ref (v + 2)])) (hv2 : f (v + 2) = zA cI 25 c) (hv3 : f (v + 3) = zA cI 5 lw) (hp : 2 ≤ p ∧ p ≤ 31) (hc : zcan p c) (hlw : zcan 31 lw) (hw : 0 ≤ w ∧ w ≤ 31) : zMi l yX10_oftenTangent wsX10_oftenTangent 3 64 D (zT cI cJ cZ cP cS cM) L sz f [.ref v, .int (zI w)] (fun z g => z = (zoften c lw w p).1 ∧ g = va_up f (v + 3) (zA cI 5 (zoften c lw w p).2)) := by
  refine zWalk.met (nL := 4) (ret := (some .int)) (cc := cX10_oftenTangent) (by decide) rfl (Nat.le_of_ble_eq_true rfl) ?_
  intro pg en st mi ag bl mt cd ls CX hW hl
  have CX : zC pg st mi ag mt cd cX10_oftenTangent 4 (some .int) RX10 wsX10_oftenTangent := CX
  generalize hQ : MQ bl _ ag st 0 0 _ = Q
  have hX0 := CX.1
  have hB0 := CX.2.1
  have hl : lv_has ls 4 [(0, .ref v), (1, .int (zI w))] := hl
  obtain ⟨H, eH⟩ : ∃ H, H = st.heap := ⟨_, rfl⟩
  obtain ⟨locs, eL⟩ : ∃ L : List Loc, L = [] := ⟨_, rfl⟩
  have hW : zW D (zT cI cJ cZ cP cS cM) L (zQ L sz) st f st.heap H locs := by rw [eH, eL]; exact hW
  suffices hgo : W pg l en ({ frames := 3, cells := 0, slots := 0, locals := 64 } : Room) st mi ag bl mt cd H locs 0 0 Q (F0 mi 0 ls []) by rw [eH, eL] at hgo; exact hgo
  clear eH eL
  refine lv_aload_n hX0 hB0 dX10_oftenTangent_0 rfl (lv_at hl 0 rfl) ?_
  refine z_calli hW (va_runV (C := RX10) (As := []) (rest := []) CX.fix (c_least l (f := f) v p c lw hv0 hv1 hv2 hv3 (by omega) (by assumption)) (cwV 0 CX.fix.2.2.2.2 gX10_oftenTangent_X10_least rfl rfl rfl (by decide +kernel) ⟨Nat.le_of_ble_eq_true rfl, Nat.le_of_ble_eq_true rfl⟩) (z_preV CX hW (r := (RX10, TX10, 3)) hv0 rfl) rfl rfl hl.1 rfl (lv_room (Nat.le_of_ble_eq_true rfl)) dX10_oftenTangent_1 ⟨Nat.zero_le _, Nat.zero_le _⟩) (fun zv gn H locs hok1 hW => ?_)
  obtain ⟨ez, eg⟩ := hok1
  have eg : gn = f := eg
  rw [eg] at hW
  clear eg
  have ez : zv = zleast c := ez
  rw [ez]
  clear ez
  have hls1 := zleast_rng c
  have hn0 := zleast_rng c
  refine lv_istore_n (lv' := [(2, .int (zI (zleast c))), (0, .ref v), (1, .int (zI w))]) hX0 hB0 dX10_oftenTangent_4 rfl hl (by decide) rfl (fun ls hl => ?_)
  refine lv_iconst (v := zI 0) hX0 hB0 dX10_oftenTangent_5 rfl ?_
  refine lv_istore_n (lv' := [(3, .int (zI 0)), (2, .int (zI (zleast c))), (0, .ref v), (1, .int (zI w))]) hX0 hB0 dX10_oftenTangent_6 rfl hl (by decide) rfl (fun ls hl => ?_)
  have hL7 : ∀ (fu : Nat) (j : Int) (cl : Nat → Int), (0 ≤ j ∧ (j ≤ zleast c + 1 ∨ j = 0) ∧ cl = zfor (zlow_s c (zleast c)) 0 lw (j - 0).toNat ∧ zcan 31 cl) → (zleast c + 1 - j).toNat < fu → ∀ (H : Heap) (locs : List Loc) (ls : Array Slot), zW D (zT cI cJ cZ cP cS cM) L (zQ L sz) st (va_up f (v + 3) (zA cI 5 cl)) st.heap H locs → lv_has ls 4 [(3, .int (zI j)), (2, .int (zI (zleast c))), (0, .ref v), (1, .int (zI w))] → W pg l en ({ frames := 3, cells := 0, slots := 0, locals := 64 } : Room) st mi ag bl mt cd H locs 0 0 Q (F0 mi 7 ls []) := by
    intro fu
    induction fu with
    | zero => intro j cl _ hfu; exact absurd hfu (Nat.not_lt_zero _)
    | succ fu ih7 =>
      intro j cl hinv7 hfu7 H locs ls hW hl
      obtain ⟨hj0, hj1, hecl, hcl⟩ := hinv7
      refine lv_iload_n hX0 hB0 dX10_oftenTangent_7 rfl (lv_at hl 0 rfl) ?_
      refine lv_iload_n hX0 hB0 dX10_oftenTangent_8 rfl (lv_at hl 1 rfl) ?_
      refine z_icmp_gt (tgt := 35) CX dX10_oftenTangent_9 (by decide) (by constructor <;> omega) (by constructor <;> omega) (fun c_9 => ?_) (fun c_9 => ?_)
      ·
        have ecl : cl = zlow c lw (zleast c) := by rw [hecl, show (j - 0).toNat = (zleast c + 1 - 0).toNat by omega]; rfl
        rw [ecl] at hW
        refine lv_iconst (v := zI 0) hX0 hB0 dX10_oftenTangent_35 rfl ?_
        refine lv_istore_n (lv' := [(3, .int (zI 0)), (2, .int (zI (zleast c))), (0, .ref v), (1, .int (zI w))]) hX0 hB0 dX10_oftenTangent_36 rfl hl (by decide) rfl (fun ls hl => ?_)
        refine lv_iload_n hX0 hB0 dX10_oftenTangent_37 rfl (lv_at hl 3 rfl) ?_
        refine lv_aload_n hX0 hB0 dX10_oftenTangent_38 rfl (lv_at hl 2 rfl) ?_
        refine z_get (Cn := RX10) (T := TX10) (N := 3) CX hW (v := .int (zI p)) ((va_up_ne _ _ (by omega)).trans hv0) rfl (fun w h => List.mem_cons_of_mem _ (List.mem_append_left _ (List.mem_append_right _ h))) 2 (by decide) (List.mem_of_getElem? (i := 3) rfl) rfl rfl dX10_oftenTangent_39 ?_
        refine z_icmp_ne (tgt := 69) CX dX10_oftenTangent_42 (by decide) (by constructor <;> omega) (by constructor <;> omega) (fun c_42 => ?_) (fun c_42 => ?_)
        ·
          have hL69 : ∀ (fu : Nat) (o : Int) (cl : Nat → Int), (0 ≤ o ∧ o ≤ zleast c ∧ zoften c lw w p = zofdF w p (zleast c) (zleast c - o).toNat o cl ∧ zcan 31 cl) → (zleast c - o).toNat < fu → ∀ (H : Heap) (locs : List Loc) (ls : Array Slot), zW D (zT cI cJ cZ cP cS cM) L (zQ L sz) st (va_up f (v + 3) (zA cI 5 cl)) st.heap H locs → lv_has ls 4 [(3, .int (zI o)), (2, .int (zI (zleast c))), (0, .ref v), (1, .int (zI w))] → W pg l en ({ frames := 3, cells := 0, slots := 0, locals := 64 } : Room) st mi ag bl mt cd H locs 0 0 Q (F0 mi 69 ls []) := by
            intro fu
            induction fu with
            | zero => intro o cl _ hfu; exact absurd hfu (Nat.not_lt_zero _)
            | succ fu ih69 =>
              intro o cl hinv69 hfu69 H locs ls hW hl
              obtain ⟨ho0, ho1, hoz, hcl⟩ := hinv69
              refine lv_iload_n hX0 hB0 dX10_oftenTangent_69 rfl (lv_at hl 0 rfl) ?_
              refine lv_iload_n hX0 hB0 dX10_oftenTangent_70 rfl (lv_at hl 1 rfl) ?_
              refine z_icmp_ge (tgt := 91) CX dX10_oftenTangent_71 (by decide) (by constructor <;> omega) (by constructor <;> omega) (fun c_71 => ?_) (fun c_71 => ?_)
              ·
                refine lv_iload_n hX0 hB0 dX10_oftenTangent_91 rfl (lv_at hl 0 rfl) ?_
                rw [← hQ]
                exact z_iret (z := o) CX hW (by first | exact ⟨by rw [hoz, show (zleast c - o).toNat = 0 by omega]; rfl, by rw [hoz, show (zleast c - o).toNat = 0 by omega]; rfl⟩ | exact ⟨by rw [hoz, zofdF_s _ _ _ (by omega), if_neg hdz], by rw [hoz, zofdF_s _ _ _ (by omega), if_neg hdz]; unfold zdivb; rw [if_neg hdz]⟩) rfl dX10_oftenTangent_92
              ·
                refine lv_aload_n hX0 hB0 dX10_oftenTangent_74 rfl (lv_at hl 2 rfl) ?_
                refine lv_iload_n hX0 hB0 dX10_oftenTangent_75 rfl (lv_at hl 1 rfl) ?_
                refine lv_iload_n hX0 hB0 dX10_oftenTangent_76 rfl (lv_at hl 0 rfl) ?_
                refine z_isub (z := (zleast c) - o) CX dX10_oftenTangent_77 rfl ?_
                refine lv_iload_n hX0 hB0 dX10_oftenTangent_78 rfl (lv_at hl 3 rfl) ?_
                refine z_calli hW (va_runV (C := RX10) (As := [.int (zI ((zleast c) - o)), .int (zI w)]) (rest := []) CX.fix (c_divideOnce l (f := va_up f (v + 3) (zA cI 5 cl)) v p c cl ((zleast c) - o) w ((va_up_ne _ _ (by omega)).trans hv0) ((va_up_ne _ _ (by omega)).trans hv1) ((va_up_ne _ _ (by omega)).trans hv2) (va_up_self _ _ _) (by omega) (by assumption) (by omega) (by omega)) (cwV 2 CX.fix.2.2.2.2 gX10_oftenTangent_X10_divideOnce rfl rfl rfl (by decide +kernel) ⟨Nat.le_of_ble_eq_true rfl, Nat.le_of_ble_eq_true rfl⟩) (z_preV CX hW (r := (RX10, TX10, 3)) ((va_up_ne _ _ (by omega)).trans hv0) rfl) rfl rfl hl.1 rfl (lv_room (Nat.le_of_ble_eq_true rfl)) dX10_oftenTangent_79 ⟨Nat.zero_le _, Nat.zero_le _⟩) (fun zv gn H locs hok79 hW => ?_)
                obtain ⟨ez, eg⟩ := hok79
                have eg : gn = va_up f (v + 3) (zA cI 5 (zdivb cl w p ((zleast c) - o))) := (eg).trans va_up_up
                rw [eg] at hW
                clear eg
                have ez : zv = if zhorn cl w p ((zleast c) - o) = 0 then 1 else 0 := ez
                rw [ez]
                clear ez
                have hdv79 : (if zhorn cl w p ((zleast c) - o) = 0 then (1 : Int) else 0) = 0 ∨ (if zhorn cl w p ((zleast c) - o) = 0 then (1 : Int) else 0) = 1 := by split <;> omega
                refine z_if_eq (tgt := 91) CX dX10_oftenTangent_82 (by decide) (by constructor <;> omega) (fun c_82 => ?_) (fun c_82 => ?_)
                ·
                  have hdz : ¬ zhorn cl w p (zleast c - o) = 0 := fun q => by rw [if_pos q] at c_82; omega
                  refine lv_iload_n hX0 hB0 dX10_oftenTangent_91 rfl (lv_at hl 0 rfl) ?_
                  rw [← hQ]
                  exact z_iret (z := o) CX hW (by first | exact ⟨by rw [hoz, show (zleast c - o).toNat = 0 by omega]; rfl, by rw [hoz, show (zleast c - o).toNat = 0 by omega]; rfl⟩ | exact ⟨by rw [hoz, zofdF_s _ _ _ (by omega), if_neg hdz], by rw [hoz, zofdF_s _ _ _ (by omega), if_neg hdz]; unfold zdivb; rw [if_neg hdz]⟩) rfl dX10_oftenTangent_92
                ·
                  have hdz : zhorn cl w p (zleast c - o) = 0 := Classical.byContradiction fun q => c_82 (if_neg q)
                  refine lv_iinc (v := zI (o + 1)) (lv' := [(3, .int (zI (o + 1))), (2, .int (zI (zleast c))), (0, .ref v), (1, .int (zI w))]) hX0 hB0 dX10_oftenTangent_85 hl (k := 0) rfl (zI_add _ _) (by decide) rfl (fun ls hl => ?_)
                  refine lv_goto (tgt := 69) hX0 hB0 dX10_oftenTangent_88 (by decide) ?_
                  exact ih69 (o + 1) (zdivb cl w p ((zleast c) - o)) ⟨by omega, by omega, by rw [hoz, zofdF_s _ _ _ (by omega), if_pos hdz]; unfold zdivb; rw [if_pos hdz], zdivb_can (by omega) (by omega) hcl⟩ (by omega) H locs ls hW (lv_sub hl [0, 1, 2, 3] rfl)
          exact hL69 _ 0 (zlow c lw (zleast c)) ⟨by omega, by omega, by unfold zoften zofL; rw [if_neg c_42], zlow_can (by omega) (zcan_le hc (by omega)) hlw⟩ (Nat.lt_succ_self _) H locs ls hW (lv_sub hl [0, 1, 2, 3] rfl)
        ·
          have hL45 : ∀ (fu : Nat) (o : Int), (w = p ∧ 0 ≤ o ∧ o ≤ zleast c ∧ zoften c lw w p = (zofuF (zlow c lw (zleast c)) (zleast c) (zleast c - o).toNat o, zlow c lw (zleast c))) → (zleast c - o).toNat < fu → ∀ (H : Heap) (locs : List Loc) (ls : Array Slot), zW D (zT cI cJ cZ cP cS cM) L (zQ L sz) st (va_up f (v + 3) (zA cI 5 (zlow c lw (zleast c)))) st.heap H locs → lv_has ls 4 [(3, .int (zI o)), (2, .int (zI (zleast c))), (0, .ref v), (1, .int (zI w))] → W pg l en ({ frames := 3, cells := 0, slots := 0, locals := 64 } : Room) st mi ag bl mt cd H locs 0 0 Q (F0 mi 45 ls []) := by
            intro fu
            induction fu with
            | zero => intro o _ hfu; exact absurd hfu (Nat.not_lt_zero _)
            | succ fu ih45 =>
              intro o hinv45 hfu45 H locs ls hW hl
              obtain ⟨hwp, ho0, ho1, hoz⟩ := hinv45
              refine lv_iload_n hX0 hB0 dX10_oftenTangent_45 rfl (lv_at hl 0 rfl) ?_
              refine lv_iload_n hX0 hB0 dX10_oftenTangent_46 rfl (lv_at hl 1 rfl) ?_
              refine z_icmp_ge (tgt := 67) CX dX10_oftenTangent_47 (by decide) (by constructor <;> omega) (by constructor <;> omega) (fun c_47 => ?_) (fun c_47 => ?_)
              ·
                refine lv_iload_n hX0 hB0 dX10_oftenTangent_67 rfl (lv_at hl 0 rfl) ?_
                rw [← hQ]
                exact z_iret (z := o) CX hW (by first | exact ⟨by rw [hoz, show (zleast c - o).toNat = 0 by omega]; rfl, by rw [hoz]⟩ | exact ⟨by rw [hoz, zofuF_s _ (by omega), if_neg c_58], by rw [hoz]⟩) rfl dX10_oftenTangent_68
              ·
                refine lv_aload_n hX0 hB0 dX10_oftenTangent_50 rfl (lv_at hl 2 rfl) ?_
                refine z_get (Cn := RX10) (T := TX10) (N := 3) CX hW (v := .ref (v + 3)) ((va_up_ne _ _ (by omega)).trans hv0) rfl (fun w h => List.mem_cons_of_mem _ (List.mem_append_left _ (List.mem_append_right _ h))) 1 (by decide) (List.mem_of_getElem? (i := 1) rfl) rfl rfl dX10_oftenTangent_51 ?_
                refine lv_iload_n hX0 hB0 dX10_oftenTangent_54 rfl (lv_at hl 1 rfl) ?_
                refine lv_iload_n hX0 hB0 dX10_oftenTangent_55 rfl (lv_at hl 0 rfl) ?_
                refine z_isub (z := (zleast c) - o) CX dX10_oftenTangent_56 rfl ?_
                refine z_iald (z := (zlow c lw (zleast c)) (((zleast c) - o).toNat)) CX hW (va_up_self _ _ _) 0 rfl (by refine ⟨?_, ?_, ?_⟩ <;> omega) rfl dX10_oftenTangent_57 ?_
                have hlc := zlow_can (n := zleast c) (p := 31) (by omega) (zcan_le hc (by omega)) hlw ((zleast c - o).toNat)
                refine z_if_ne (tgt := 67) CX dX10_oftenTangent_58 (by decide) (by constructor <;> omega) (fun c_58 => ?_) (fun c_58 => ?_)
                ·
                  refine lv_iload_n hX0 hB0 dX10_oftenTangent_67 rfl (lv_at hl 0 rfl) ?_
                  rw [← hQ]
                  exact z_iret (z := o) CX hW (by first | exact ⟨by rw [hoz, show (zleast c - o).toNat = 0 by omega]; rfl, by rw [hoz]⟩ | exact ⟨by rw [hoz, zofuF_s _ (by omega), if_neg c_58], by rw [hoz]⟩) rfl dX10_oftenTangent_68
                ·
                  refine lv_iinc (v := zI (o + 1)) (lv' := [(3, .int (zI (o + 1))), (2, .int (zI (zleast c))), (0, .ref v), (1, .int (zI w))]) hX0 hB0 dX10_oftenTangent_61 hl (k := 0) rfl (zI_add _ _) (by decide) rfl (fun ls hl => ?_)
                  refine lv_goto (tgt := 45) hX0 hB0 dX10_oftenTangent_64 (by decide) ?_
                  exact ih45 (o + 1) ⟨hwp, by omega, by omega, by rw [hoz, zofuF_s _ (by omega), if_pos c_58]⟩ (by omega) H locs ls hW (lv_sub hl [0, 1, 2, 3] rfl)
          exact hL45 _ 0 ⟨c_42, by omega, by omega, by unfold zoften zofL; rw [if_pos c_42]⟩ (Nat.lt_succ_self _) H locs ls hW (lv_sub hl [0, 1, 2, 3] rfl)
      ·
        refine lv_aload_n hX0 hB0 dX10_oftenTangent_12 rfl (lv_at hl 2 rfl) ?_
        refine z_get (Cn := RX10) (T := TX10) (N := 3) CX hW (v := .ref (v + 3)) ((va_up_ne _ _ (by omega)).trans hv0) rfl (fun w h => List.mem_cons_of_mem _ (List.mem_append_left _ (List.mem_append_right _ h))) 1 (by decide) (List.mem_of_getElem? (i := 1) rfl) rfl rfl dX10_oftenTangent_13 ?_
        refine lv_iload_n hX0 hB0 dX10_oftenTangent_16 rfl (lv_at hl 0 rfl) ?_
        refine lv_aload_n hX0 hB0 dX10_oftenTangent_17 rfl (lv_at hl 2 rfl) ?_
        refine z_get (Cn := RX10) (T := TX10) (N := 3) CX hW (v := .ref (v + 1)) ((va_up_ne _ _ (by omega)).trans hv0) rfl (fun w h => List.mem_cons_of_mem _ (List.mem_append_left _ (List.mem_append_right _ h))) 0 (by decide) (List.mem_of_getElem? (i := 2) rfl) rfl rfl dX10_oftenTangent_18 ?_
        refine lv_iload_n hX0 hB0 dX10_oftenTangent_21 rfl (lv_at hl 1 rfl) ?_
        refine lv_iload_n hX0 hB0 dX10_oftenTangent_22 rfl (lv_at hl 0 rfl) ?_
        refine z_isub (z := (zleast c) - j) CX dX10_oftenTangent_23 rfl ?_
        refine lv_iload_n hX0 hB0 dX10_oftenTangent_24 rfl (lv_at hl 0 rfl) ?_
        refine z_calli hW (va_runV (C := RX2) (As := [.int (zI ((zleast c) - j)), .int (zI j)]) (rest := [.int (zI j), .ref (v + 3)]) CX.fix (c_at l (f := va_up f (v + 3) (zA cI 5 cl)) (v + 1) (v + 2) c ((zleast c) - j) j ((va_up_ne _ _ (by omega)).trans hv1) ((va_up_ne _ _ (by omega)).trans hv2) (by constructor <;> omega) (by constructor <;> omega)) (cwV 2 CX.fix.2.2.2.2 gX10_oftenTangent_X2_at rfl rfl rfl (by decide +kernel) ⟨Nat.le_of_ble_eq_true rfl, Nat.le_of_ble_eq_true rfl⟩) (z_preV CX hW (r := (RX2, TX2, 1)) ((va_up_ne _ _ (by omega)).trans hv1) rfl) rfl rfl hl.1 rfl (lv_room (Nat.le_of_ble_eq_true rfl)) dX10_oftenTangent_25 ⟨Nat.zero_le _, Nat.zero_le _⟩) (fun zv gn H locs hok25 hW => ?_)
        obtain ⟨ez, eg⟩ := hok25
        have eg : gn = va_up f (v + 3) (zA cI 5 cl) := eg
        rw [eg] at hW
        clear eg
        have ez : zv = zat c ((zleast c) - j) j := ez
        rw [ez]
        clear ez
        have hat := zat_can (p := p) (by omega) hc (zleast c - j) j
        refine z_iast CX hW (va_up_self _ _ _) 0 rfl (by refine ⟨?_, ?_, ?_⟩ <;> omega) (g := va_up f (v + 3) (zA cI 5 (zup cl j.toNat (zat c ((zleast c) - j) j)))) va_up_up dX10_oftenTangent_28 (fun H locs hW => ?_)
        refine lv_iinc (v := zI (j + 1)) (lv' := [(3, .int (zI (j + 1))), (2, .int (zI (zleast c))), (0, .ref v), (1, .int (zI w))]) hX0 hB0 dX10_oftenTangent_29 hl (k := 0) rfl (zI_add _ _) (by decide) rfl (fun ls hl => ?_)
        refine lv_goto (tgt := 7) hX0 hB0 dX10_oftenTangent_32 (by decide) ?_
        exact ih7 (j + 1) (zup cl j.toNat (zat c ((zleast c) - j) j)) ⟨by omega, by omega, by rw [zfor_s _ _ _ hj0, ← hecl]; rfl, zcan_up hcl _ (by omega)⟩ (by omega) H locs ls hW (lv_sub hl [0, 1, 2, 3] rfl)
  have hW := hW
  rw [show f = va_up f (v + 3) (zA cI 5 lw) from by rw [va_up_id (a := (v + 3)) hv3]] at hW
  exact hL7 _ 0 lw ⟨by omega, Or.inr rfl, (zfor_0 _ _ _).symm, hlw⟩ (Nat.lt_succ_self _) H locs ls hW (lv_sub hl [0, 1, 2, 3] rfl)
set_option maxRecDepth 100000 in
set_option maxHeartbeats 4000000 in
/-- View.bendHere -/
theorem c_bendHere (l : Launch) {D : va_G} {cI cJ cZ cP cS cM : ClassId} {L : List Nat} {sz : Nat} {f : Nat → va_E} (v : Nat) (p : Int) (c lw : Nat → Int) (hv0 : f v = .inr (10, [.ref (v + 1), .ref (v + 3), .int (zI p)])) (hv1 : f (v + 1) = .inr (2, [.ref (v + 2)])) (hv2 : f (v + 2) = zA cI 25 c) (hv3 : f (v + 3) = zA cI 5 lw) (hp : 2 ≤ p ∧ p ≤ 31) (hc : zcan p c) : zMi l yX10_bendHere wsX10_bendHere 3 64 D (zT cI cJ cZ cP cS cM) L sz f [.ref v] (fun z g => z = zbend c p ∧ g = f) := by
  refine zWalk.met (nL := 7) (ret := (some .int)) (cc := cX10_bendHere) (by decide) rfl (Nat.le_of_ble_eq_true rfl) ?_
  intro pg en st mi ag bl mt cd ls CX hW hl
  have CX : zC pg st mi ag mt cd cX10_bendHere 7 (some .int) RX10 wsX10_bendHere := CX
  generalize hQ : MQ bl _ ag st 0 0 _ = Q
  have hX0 := CX.1
  have hB0 := CX.2.1
  have hl : lv_has ls 7 [(0, .ref v)] := hl
  obtain ⟨H, eH⟩ : ∃ H, H = st.heap := ⟨_, rfl⟩
  obtain ⟨locs, eL⟩ : ∃ L : List Loc, L = [] := ⟨_, rfl⟩
  have hW : zW D (zT cI cJ cZ cP cS cM) L (zQ L sz) st f st.heap H locs := by rw [eH, eL]; exact hW
  suffices hgo : W pg l en ({ frames := 3, cells := 0, slots := 0, locals := 64 } : Room) st mi ag bl mt cd H locs 0 0 Q (F0 mi 0 ls []) by rw [eH, eL] at hgo; exact hgo
  clear eH eL
  refine lv_aload_n hX0 hB0 dX10_bendHere_0 rfl (lv_at hl 0 rfl) ?_
  refine z_calli hW (va_runV (C := RX10) (As := []) (rest := []) CX.fix (c_least l (f := f) v p c lw hv0 hv1 hv2 hv3 (by omega) (by assumption)) (cwV 0 CX.fix.2.2.2.2 gX10_bendHere_X10_least rfl rfl rfl (by decide +kernel) ⟨Nat.le_of_ble_eq_true rfl, Nat.le_of_ble_eq_true rfl⟩) (z_preV CX hW (r := (RX10, TX10, 3)) hv0 rfl) rfl rfl hl.1 rfl (lv_room (Nat.le_of_ble_eq_true rfl)) dX10_bendHere_1 ⟨Nat.zero_le _, Nat.zero_le _⟩) (fun zv gn H locs hok1 hW => ?_)
  obtain ⟨ez, eg⟩ := hok1
  have eg : gn = f := eg
  rw [eg] at hW
  clear eg
  have ez : zv = zleast c := ez
  rw [ez]
  clear ez
  have hls1 := zleast_rng c
  refine lv_iconst (v := zI 1) hX0 hB0 dX10_bendHere_4 rfl ?_
  refine z_icmp_eq (tgt := 10) CX dX10_bendHere_5 (by decide) (by constructor <;> omega) (by constructor <;> omega) (fun c_5 => ?_) (fun c_5 => ?_)
  ·
    refine lv_aload_n hX0 hB0 dX10_bendHere_10 rfl (lv_at hl 0 rfl) ?_
    refine z_get (Cn := RX10) (T := TX10) (N := 3) CX hW (v := .ref (v + 1)) hv0 rfl (fun w h => List.mem_cons_of_mem _ (List.mem_append_left _ (List.mem_append_right _ h))) 0 (by decide) (List.mem_of_getElem? (i := 1) rfl) rfl rfl dX10_bendHere_11 ?_
    refine lv_iconst (v := zI 0) hX0 hB0 dX10_bendHere_14 rfl ?_
    refine lv_iconst (v := zI 1) hX0 hB0 dX10_bendHere_15 rfl ?_
    refine z_calli hW (va_runV (C := RX2) (As := [.int (zI 0), .int (zI 1)]) (rest := []) CX.fix (c_at l (f := f) (v + 1) (v + 2) c 0 1 hv1 hv2 (by constructor <;> omega) (by constructor <;> omega)) (cwV 2 CX.fix.2.2.2.2 gX10_bendHere_X2_at rfl rfl rfl (by decide +kernel) ⟨Nat.le_of_ble_eq_true rfl, Nat.le_of_ble_eq_true rfl⟩) (z_preV CX hW (r := (RX2, TX2, 1)) hv1 rfl) rfl rfl hl.1 rfl (lv_room (Nat.le_of_ble_eq_true rfl)) dX10_bendHere_16 ⟨Nat.zero_le _, Nat.zero_le _⟩) (fun zv gn H locs hok16 hW => ?_)
    obtain ⟨ez, eg⟩ := hok16
    have eg : gn = f := eg
    rw [eg] at hW
    clear eg
    have ez : zv = zat c 0 1 := ez
    rw [ez]
    clear ez
    have hat1 := zat_can (p := p) (by omega) hc 0 1
    refine z_ineg (z := -(zat c 0 1)) CX dX10_bendHere_19 rfl ?_
    refine lv_aload_n hX0 hB0 dX10_bendHere_20 rfl (lv_at hl 0 rfl) ?_
    refine z_get (Cn := RX10) (T := TX10) (N := 3) CX hW (v := .int (zI p)) hv0 rfl (fun w h => List.mem_cons_of_mem _ (List.mem_append_left _ (List.mem_append_right _ h))) 2 (by decide) (List.mem_of_getElem? (i := 2) rfl) rfl rfl dX10_bendHere_21 ?_
    refine z_calli hW (va_runSN (As := [.int (zI (-(zat c 0 1))), .int (zI p)]) (rest := []) CX.fix (c_mod l (f := f) (-(zat c 0 1)) p (by constructor <;> omega) (by constructor <;> omega)) ⟨va_cnB (own := RX10) (host := "CurveMeets") (index := 58) 2 CX.fix.2.2.2.2 ggX10_bendHere_X11_mod rfl rfl rfl (CX.2.2.2.2.2.2.2.1 _ (by decide +kernel)) (CX.at (List.mem_of_getElem? (i := 26) rfl)) (by decide +kernel) ⟨Nat.le_of_ble_eq_true rfl, Nat.le_of_ble_eq_true rfl⟩, CX.at (List.mem_of_getElem? (i := 25) rfl), trivial⟩ (z_preS CX hW) rfl rfl hl.1 rfl (lv_room (Nat.le_of_ble_eq_true rfl)) dX10_bendHere_24 ⟨Nat.zero_le _, Nat.zero_le _⟩) (fun zv gn H locs hok24 hW => ?_)
    obtain ⟨ez, eg⟩ := hok24
    have eg : gn = f := eg
    rw [eg] at hW
    clear eg
    have ez : zv = (-(zat c 0 1)) % p := ez
    rw [ez]
    clear ez
    have hm24 := zmr (-(zat c 0 1)) (p := p) (by omega)
    refine lv_istore_n (lv' := [(1, .int (zI ((-(zat c 0 1)) % p))), (0, .ref v)]) hX0 hB0 dX10_bendHere_27 rfl hl (by decide) rfl (fun ls hl => ?_)
    refine lv_aload_n hX0 hB0 dX10_bendHere_28 rfl (lv_at hl 1 rfl) ?_
    refine z_get (Cn := RX10) (T := TX10) (N := 3) CX hW (v := .ref (v + 1)) hv0 rfl (fun w h => List.mem_cons_of_mem _ (List.mem_append_left _ (List.mem_append_right _ h))) 0 (by decide) (List.mem_of_getElem? (i := 1) rfl) rfl rfl dX10_bendHere_29 ?_
    refine lv_iconst (v := zI 1) hX0 hB0 dX10_bendHere_32 rfl ?_
    refine lv_iconst (v := zI 0) hX0 hB0 dX10_bendHere_33 rfl ?_
    refine z_calli hW (va_runV (C := RX2) (As := [.int (zI 1), .int (zI 0)]) (rest := []) CX.fix (c_at l (f := f) (v + 1) (v + 2) c 1 0 hv1 hv2 (by constructor <;> omega) (by constructor <;> omega)) (cwV 2 CX.fix.2.2.2.2 gX10_bendHere_X2_at rfl rfl rfl (by decide +kernel) ⟨Nat.le_of_ble_eq_true rfl, Nat.le_of_ble_eq_true rfl⟩) (z_preV CX hW (r := (RX2, TX2, 1)) hv1 rfl) rfl rfl hl.1 rfl (lv_room (Nat.le_of_ble_eq_true rfl)) dX10_bendHere_34 ⟨Nat.zero_le _, Nat.zero_le _⟩) (fun zv gn H locs hok34 hW => ?_)
    obtain ⟨ez, eg⟩ := hok34
    have eg : gn = f := eg
    rw [eg] at hW
    clear eg
    have ez : zv = zat c 1 0 := ez
    rw [ez]
    clear ez
    have hat2 := zat_can (p := p) (by omega) hc 1 0
    have hmu := zmr (-zat c 0 1) (p := p) (by omega)
    refine lv_istore_n (lv' := [(2, .int (zI (zat c 1 0))), (1, .int (zI ((-(zat c 0 1)) % p))), (0, .ref v)]) hX0 hB0 dX10_bendHere_37 rfl hl (by decide) rfl (fun ls hl => ?_)
    refine lv_iconst (v := zI 2) hX0 hB0 dX10_bendHere_38 rfl ?_
    refine lv_istore_n (lv' := [(3, .int (zI 2)), (2, .int (zI (zat c 1 0))), (1, .int (zI ((-(zat c 0 1)) % p))), (0, .ref v)]) hX0 hB0 dX10_bendHere_39 rfl hl (by decide) rfl (fun ls hl => ?_)
    have hL40 : ∀ (fu : Nat) (d : Int), (2 ≤ d ∧ d ≤ 5 ∧ zbend c p = zbendF c p (-zat c 0 1 % p) (zat c 1 0) (5 - d).toNat d) → (5 - d).toNat < fu → ∀ (H : Heap) (locs : List Loc) (ls : Array Slot), zW D (zT cI cJ cZ cP cS cM) L (zQ L sz) st f st.heap H locs → lv_has ls 7 [(3, .int (zI d)), (1, .int (zI ((-(zat c 0 1)) % p))), (2, .int (zI (zat c 1 0))), (0, .ref v)] → W pg l en ({ frames := 3, cells := 0, slots := 0, locals := 64 } : Room) st mi ag bl mt cd H locs 0 0 Q (F0 mi 40 ls []) := by
      intro fu
      induction fu with
      | zero => intro d _ hfu; exact absurd hfu (Nat.not_lt_zero _)
      | succ fu ih40 =>
        intro d hinv40 hfu40 H locs ls hW hl
        obtain ⟨hd0, hd1, hdz⟩ := hinv40
        refine lv_iload_n hX0 hB0 dX10_bendHere_40 rfl (lv_at hl 0 rfl) ?_
        refine lv_iconst (v := zI 4) hX0 hB0 dX10_bendHere_41 rfl ?_
        refine z_icmp_gt (tgt := 129) CX dX10_bendHere_42 (by decide) (by constructor <;> omega) (by constructor <;> omega) (fun c_42 => ?_) (fun c_42 => ?_)
        ·
          refine lv_bipush (v := zI (-2)) hX0 hB0 dX10_bendHere_129 (by decide) ?_
          rw [← hQ]
          exact z_iret (z := -2) CX hW (by exact ⟨by rw [hdz, show (5 - d).toNat = 0 by omega]; rfl, rfl⟩) rfl dX10_bendHere_131
        ·
          refine lv_iconst (v := zI 0) hX0 hB0 dX10_bendHere_45 rfl ?_
          refine lv_istore (lv' := [(4, .int (zI 0)), (3, .int (zI d)), (1, .int (zI ((-(zat c 0 1)) % p))), (2, .int (zI (zat c 1 0))), (0, .ref v)]) hX0 hB0 dX10_bendHere_46 hl (by decide) rfl (fun ls hl => ?_)
          refine lv_iconst (v := zI 0) hX0 hB0 dX10_bendHere_48 rfl ?_
          refine lv_istore (lv' := [(5, .int (zI 0)), (4, .int (zI 0)), (3, .int (zI d)), (1, .int (zI ((-(zat c 0 1)) % p))), (2, .int (zI (zat c 1 0))), (0, .ref v)]) hX0 hB0 dX10_bendHere_49 hl (by decide) rfl (fun ls hl => ?_)
          have hL51 : ∀ (fu : Nat) (i : Int) (sm : Int), (0 ≤ i ∧ (i ≤ d + 1 ∨ i = 0) ∧ sm = zfor (zbsum_s c p (-zat c 0 1 % p) (zat c 1 0) d) 0 0 (i - 0).toNat ∧ 0 ≤ sm ∧ sm < p) → (d + 1 - i).toNat < fu → ∀ (H : Heap) (locs : List Loc) (ls : Array Slot), zW D (zT cI cJ cZ cP cS cM) L (zQ L sz) st f st.heap H locs → lv_has ls 7 [(5, .int (zI i)), (4, .int (zI sm)), (3, .int (zI d)), (1, .int (zI ((-(zat c 0 1)) % p))), (2, .int (zI (zat c 1 0))), (0, .ref v)] → W pg l en ({ frames := 3, cells := 0, slots := 0, locals := 64 } : Room) st mi ag bl mt cd H locs 0 0 Q (F0 mi 51 ls []) := by
            intro fu
            induction fu with
            | zero => intro i sm _ hfu; exact absurd hfu (Nat.not_lt_zero _)
            | succ fu ih51 =>
              intro i sm hinv51 hfu51 H locs ls hW hl
              obtain ⟨hi0, hi1, hesm, hs0, hs1⟩ := hinv51
              refine lv_iload hX0 hB0 dX10_bendHere_51 (lv_at hl 0 rfl) ?_
              refine lv_iload_n hX0 hB0 dX10_bendHere_53 rfl (lv_at hl 2 rfl) ?_
              refine z_icmp_gt (tgt := 116) CX dX10_bendHere_54 (by decide) (by constructor <;> omega) (by constructor <;> omega) (fun c_54 => ?_) (fun c_54 => ?_)
              ·
                have hsm : sm = zbsum c p (-zat c 0 1 % p) (zat c 1 0) d := by rw [hesm, show (i - 0).toNat = (d + 1 - 0).toNat by omega]; rfl
                refine lv_iload hX0 hB0 dX10_bendHere_116 (lv_at hl 1 rfl) ?_
                refine z_if_eq (tgt := 123) CX dX10_bendHere_118 (by decide) (by constructor <;> omega) (fun c_118 => ?_) (fun c_118 => ?_)
                ·
                  refine lv_iinc (v := zI (d + 1)) (lv' := [(3, .int (zI (d + 1))), (5, .int (zI i)), (4, .int (zI sm)), (1, .int (zI ((-(zat c 0 1)) % p))), (2, .int (zI (zat c 1 0))), (0, .ref v)]) hX0 hB0 dX10_bendHere_123 hl (k := 2) rfl (zI_add _ _) (by decide) rfl (fun ls hl => ?_)
                  refine lv_goto (tgt := 40) hX0 hB0 dX10_bendHere_126 (by decide) ?_
                  exact ih40 (d + 1) ⟨by omega, by omega, by rw [hdz, zbendF_s _ _ _ _ (by omega), if_pos (hsm.symm.trans c_118)]⟩ (by omega) H locs ls hW (lv_sub hl [0, 3, 4, 5] rfl)
                ·
                  refine lv_iload_n hX0 hB0 dX10_bendHere_121 rfl (lv_at hl 2 rfl) ?_
                  rw [← hQ]
                  exact z_iret (z := d) CX hW (by exact ⟨by rw [hdz, zbendF_s _ _ _ _ (by omega), if_neg (by rw [← hsm]; exact c_118)], rfl⟩) rfl dX10_bendHere_122
              ·
                refine lv_iload_n hX0 hB0 dX10_bendHere_57 rfl (lv_at hl 3 rfl) ?_
                refine lv_iload hX0 hB0 dX10_bendHere_58 (lv_at hl 0 rfl) ?_
                refine lv_aload_n hX0 hB0 dX10_bendHere_60 rfl (lv_at hl 5 rfl) ?_
                refine z_get (Cn := RX10) (T := TX10) (N := 3) CX hW (v := .int (zI p)) hv0 rfl (fun w h => List.mem_cons_of_mem _ (List.mem_append_left _ (List.mem_append_right _ h))) 2 (by decide) (List.mem_of_getElem? (i := 2) rfl) rfl rfl dX10_bendHere_61 ?_
                refine z_calli hW (va_runSN (As := [.int (zI ((-(zat c 0 1)) % p)), .int (zI i), .int (zI p)]) (rest := []) CX.fix (c_power l (f := f) ((-(zat c 0 1)) % p) i p (by constructor <;> omega) (by omega) (by omega) (by constructor <;> omega)) ⟨va_cnB (own := RX10) (host := "CurveMeets") (index := 75) 3 CX.fix.2.2.2.2 ggX10_bendHere_X11_power rfl rfl rfl (CX.2.2.2.2.2.2.2.1 _ (by decide +kernel)) (CX.at (List.mem_of_getElem? (i := 26) rfl)) (by decide +kernel) ⟨Nat.le_of_ble_eq_true rfl, Nat.le_of_ble_eq_true rfl⟩, CX.at (List.mem_of_getElem? (i := 28) rfl), trivial⟩ (z_preS CX hW) rfl rfl hl.1 rfl (lv_room (Nat.le_of_ble_eq_true rfl)) dX10_bendHere_64 ⟨Nat.zero_le _, Nat.zero_le _⟩) (fun zv gn H locs hok64 hW => ?_)
                obtain ⟨ez, eg⟩ := hok64
                have eg : gn = f := eg
                rw [eg] at hW
                clear eg
                have ez : zv = zpow ((-(zat c 0 1)) % p) p i.toNat := ez
                rw [ez]
                clear ez
                have hpw64 := zpow_rng ((-(zat c 0 1)) % p) (p := p) (by omega) i.toNat
                refine lv_iload_n hX0 hB0 dX10_bendHere_67 rfl (lv_at hl 4 rfl) ?_
                refine lv_iload_n hX0 hB0 dX10_bendHere_68 rfl (lv_at hl 2 rfl) ?_
                refine lv_iload hX0 hB0 dX10_bendHere_69 (lv_at hl 0 rfl) ?_
                refine z_isub (z := d - i) CX dX10_bendHere_71 rfl ?_
                refine lv_aload_n hX0 hB0 dX10_bendHere_72 rfl (lv_at hl 5 rfl) ?_
                refine z_get (Cn := RX10) (T := TX10) (N := 3) CX hW (v := .int (zI p)) hv0 rfl (fun w h => List.mem_cons_of_mem _ (List.mem_append_left _ (List.mem_append_right _ h))) 2 (by decide) (List.mem_of_getElem? (i := 2) rfl) rfl rfl dX10_bendHere_73 ?_
                refine z_calli hW (va_runSN (As := [.int (zI (zat c 1 0)), .int (zI (d - i)), .int (zI p)]) (rest := [.int (zI (zpow ((-(zat c 0 1)) % p) p i.toNat))]) CX.fix (c_power l (f := f) (zat c 1 0) (d - i) p (by constructor <;> omega) (by omega) (by omega) (by constructor <;> omega)) ⟨va_cnB (own := RX10) (host := "CurveMeets") (index := 75) 3 CX.fix.2.2.2.2 ggX10_bendHere_X11_power rfl rfl rfl (CX.2.2.2.2.2.2.2.1 _ (by decide +kernel)) (CX.at (List.mem_of_getElem? (i := 26) rfl)) (by decide +kernel) ⟨Nat.le_of_ble_eq_true rfl, Nat.le_of_ble_eq_true rfl⟩, CX.at (List.mem_of_getElem? (i := 28) rfl), trivial⟩ (z_preS CX hW) rfl rfl hl.1 rfl (lv_room (Nat.le_of_ble_eq_true rfl)) dX10_bendHere_76 ⟨Nat.zero_le _, Nat.zero_le _⟩) (fun zv gn H locs hok76 hW => ?_)
                obtain ⟨ez, eg⟩ := hok76
                have eg : gn = f := eg
                rw [eg] at hW
                clear eg
                have ez : zv = zpow (zat c 1 0) p (d - i).toNat := ez
                rw [ez]
                clear ez
                have hpw76 := zpow_rng (zat c 1 0) (p := p) (by omega) (d - i).toNat
                refine z_imul (z := (zpow ((-(zat c 0 1)) % p) p i.toNat) * (zpow (zat c 1 0) p (d - i).toNat)) CX dX10_bendHere_79 rfl ?_
                refine lv_istore (lv' := [(6, .int (zI ((zpow ((-(zat c 0 1)) % p) p i.toNat) * (zpow (zat c 1 0) p (d - i).toNat)))), (5, .int (zI i)), (4, .int (zI sm)), (3, .int (zI d)), (1, .int (zI ((-(zat c 0 1)) % p))), (2, .int (zI (zat c 1 0))), (0, .ref v)]) hX0 hB0 dX10_bendHere_80 hl (by decide) rfl (fun ls hl => ?_)
                refine lv_iload hX0 hB0 dX10_bendHere_82 (lv_at hl 2 rfl) ?_
                refine lv_aload_n hX0 hB0 dX10_bendHere_84 rfl (lv_at hl 6 rfl) ?_
                refine z_get (Cn := RX10) (T := TX10) (N := 3) CX hW (v := .ref (v + 1)) hv0 rfl (fun w h => List.mem_cons_of_mem _ (List.mem_append_left _ (List.mem_append_right _ h))) 0 (by decide) (List.mem_of_getElem? (i := 1) rfl) rfl rfl dX10_bendHere_85 ?_
                refine lv_iload hX0 hB0 dX10_bendHere_88 (lv_at hl 1 rfl) ?_
                refine lv_iload_n hX0 hB0 dX10_bendHere_90 rfl (lv_at hl 3 rfl) ?_
                refine lv_iload hX0 hB0 dX10_bendHere_91 (lv_at hl 1 rfl) ?_
                refine z_isub (z := d - i) CX dX10_bendHere_93 rfl ?_
                refine z_calli hW (va_runV (C := RX2) (As := [.int (zI i), .int (zI (d - i))]) (rest := [.int (zI sm)]) CX.fix (c_at l (f := f) (v + 1) (v + 2) c i (d - i) hv1 hv2 (by constructor <;> omega) (by constructor <;> omega)) (cwV 2 CX.fix.2.2.2.2 gX10_bendHere_X2_at rfl rfl rfl (by decide +kernel) ⟨Nat.le_of_ble_eq_true rfl, Nat.le_of_ble_eq_true rfl⟩) (z_preV CX hW (r := (RX2, TX2, 1)) hv1 rfl) rfl rfl hl.1 rfl (lv_room (Nat.le_of_ble_eq_true rfl)) dX10_bendHere_94 ⟨Nat.zero_le _, Nat.zero_le _⟩) (fun zv gn H locs hok94 hW => ?_)
                obtain ⟨ez, eg⟩ := hok94
                have eg : gn = f := eg
                rw [eg] at hW
                clear eg
                have ez : zv = zat c i (d - i) := ez
                rw [ez]
                clear ez
                have hat3 := zat_can (p := p) (by omega) hc i (d - i)
                have hpp := zmul_rng (a := zpow (-zat c 0 1 % p) p i.toNat) (b := zpow (zat c 1 0) p (d - i).toNat) (A := 31) (B := 31) (by omega) (by omega)
                have hpq := zmul_rng (a := zat c i (d - i)) (b := zpow (-zat c 0 1 % p) p i.toNat * zpow (zat c 1 0) p (d - i).toNat) (A := 31) (B := 961) (by omega) (by omega)
                refine lv_iload hX0 hB0 dX10_bendHere_97 (lv_at hl 0 rfl) ?_
                refine z_imul (z := (zat c i (d - i)) * ((zpow ((-(zat c 0 1)) % p) p i.toNat) * (zpow (zat c 1 0) p (d - i).toNat))) CX dX10_bendHere_99 rfl ?_
                refine z_iadd (z := sm + ((zat c i (d - i)) * ((zpow ((-(zat c 0 1)) % p) p i.toNat) * (zpow (zat c 1 0) p (d - i).toNat)))) CX dX10_bendHere_100 rfl ?_
                refine lv_aload_n hX0 hB0 dX10_bendHere_101 rfl (lv_at hl 6 rfl) ?_
                refine z_get (Cn := RX10) (T := TX10) (N := 3) CX hW (v := .int (zI p)) hv0 rfl (fun w h => List.mem_cons_of_mem _ (List.mem_append_left _ (List.mem_append_right _ h))) 2 (by decide) (List.mem_of_getElem? (i := 2) rfl) rfl rfl dX10_bendHere_102 ?_
                refine z_calli hW (va_runSN (As := [.int (zI (sm + ((zat c i (d - i)) * ((zpow ((-(zat c 0 1)) % p) p i.toNat) * (zpow (zat c 1 0) p (d - i).toNat))))), .int (zI p)]) (rest := []) CX.fix (c_mod l (f := f) (sm + ((zat c i (d - i)) * ((zpow ((-(zat c 0 1)) % p) p i.toNat) * (zpow (zat c 1 0) p (d - i).toNat)))) p (by constructor <;> omega) (by constructor <;> omega)) ⟨va_cnB (own := RX10) (host := "CurveMeets") (index := 58) 2 CX.fix.2.2.2.2 ggX10_bendHere_X11_mod rfl rfl rfl (CX.2.2.2.2.2.2.2.1 _ (by decide +kernel)) (CX.at (List.mem_of_getElem? (i := 26) rfl)) (by decide +kernel) ⟨Nat.le_of_ble_eq_true rfl, Nat.le_of_ble_eq_true rfl⟩, CX.at (List.mem_of_getElem? (i := 25) rfl), trivial⟩ (z_preS CX hW) rfl rfl hl.1 rfl (lv_room (Nat.le_of_ble_eq_true rfl)) dX10_bendHere_105 ⟨Nat.zero_le _, Nat.zero_le _⟩) (fun zv gn H locs hok105 hW => ?_)
                obtain ⟨ez, eg⟩ := hok105
                have eg : gn = f := eg
                rw [eg] at hW
                clear eg
                have ez : zv = (sm + ((zat c i (d - i)) * ((zpow ((-(zat c 0 1)) % p) p i.toNat) * (zpow (zat c 1 0) p (d - i).toNat)))) % p := ez
                rw [ez]
                clear ez
                have hm105 := zmr (sm + ((zat c i (d - i)) * ((zpow ((-(zat c 0 1)) % p) p i.toNat) * (zpow (zat c 1 0) p (d - i).toNat)))) (p := p) (by omega)
                refine lv_istore (lv' := [(4, .int (zI ((sm + ((zat c i (d - i)) * ((zpow ((-(zat c 0 1)) % p) p i.toNat) * (zpow (zat c 1 0) p (d - i).toNat)))) % p))), (6, .int (zI ((zpow ((-(zat c 0 1)) % p) p i.toNat) * (zpow (zat c 1 0) p (d - i).toNat)))), (5, .int (zI i)), (3, .int (zI d)), (1, .int (zI ((-(zat c 0 1)) % p))), (2, .int (zI (zat c 1 0))), (0, .ref v)]) hX0 hB0 dX10_bendHere_108 hl (by decide) rfl (fun ls hl => ?_)
                refine lv_iinc (v := zI (i + 1)) (lv' := [(5, .int (zI (i + 1))), (4, .int (zI ((sm + ((zat c i (d - i)) * ((zpow ((-(zat c 0 1)) % p) p i.toNat) * (zpow (zat c 1 0) p (d - i).toNat)))) % p))), (6, .int (zI ((zpow ((-(zat c 0 1)) % p) p i.toNat) * (zpow (zat c 1 0) p (d - i).toNat)))), (3, .int (zI d)), (1, .int (zI ((-(zat c 0 1)) % p))), (2, .int (zI (zat c 1 0))), (0, .ref v)]) hX0 hB0 dX10_bendHere_110 hl (k := 2) rfl (zI_add _ _) (by decide) rfl (fun ls hl => ?_)
                refine lv_goto (tgt := 51) hX0 hB0 dX10_bendHere_113 (by decide) ?_
                exact ih51 (i + 1) ((sm + ((zat c i (d - i)) * ((zpow ((-(zat c 0 1)) % p) p i.toNat) * (zpow (zat c 1 0) p (d - i).toNat)))) % p) ⟨by omega, by omega, by rw [zfor_s _ _ _ hi0, ← hesm]; rfl, by omega, by omega⟩ (by omega) H locs ls hW (lv_sub hl [0, 1, 3, 4, 5, 6] rfl)
          exact hL51 _ 0 0 ⟨by omega, Or.inr rfl, (zfor_0 _ _ _).symm, by omega, by omega⟩ (Nat.lt_succ_self _) H locs ls hW (lv_sub hl [0, 1, 2, 3, 4, 5] rfl)
    exact hL40 _ 2 ⟨by omega, by omega, by unfold zbend; rw [if_pos c_5]⟩ (Nat.lt_succ_self _) H locs ls hW (lv_sub hl [0, 2, 1, 3] rfl)
  ·
    refine lv_iconst (v := zI (-1)) hX0 hB0 dX10_bendHere_8 rfl ?_
    rw [← hQ]
    exact z_iret (z := -1) CX hW (by exact ⟨by unfold zbend; rw [if_neg c_5], rfl⟩) rfl dX10_bendHere_9
end ZVi
