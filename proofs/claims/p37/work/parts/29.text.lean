section ZTx6
/-- what a SUM leaves as it was -/
def zkI (S S2 : Nat → Nat → Int) : Prop := S2 1 = S 1 ∧ S2 0 4 = S 0 4 ∧ ∀ k, 7 ≤ k → k ≤ 12 → S2 k = S k
theorem zkI.refl {S : Nat → Nat → Int} : zkI S S := ⟨rfl, rfl, fun _ _ _ => rfl⟩
theorem zkI.trans {S S2 S3 : Nat → Nat → Int} (h : zkI S S2) (h2 : zkI S2 S3) : zkI S S3 := ⟨h2.1.trans h.1, h2.2.1.trans h.2.1, fun k a b => (h2.2.2 k a b).trans (h.2.2 k a b)⟩
theorem zkI_tk {n : Int} {T : Nat → Int} {sg : Int} {S : Nat → Nat → Int} : zkI S (ztk n T sg S).2 := ⟨ztk_k _ _ _ _ (by decide), ztk_num _ _ _ _ (by decide), fun k a b => ztk_k _ _ _ _ (by omega)⟩
theorem zkI_fl {k a : Int} {S : Nat → Nat → Int} : zkI S (zfl k a S) := ⟨zfl_k (by decide), rfl, fun j a b => zfl_k (by omega)⟩
theorem zkI_sk {n : Int} {T : Nat → Int} {S : Nat → Nat → Int} : zkI S (zskS n T S) := ⟨zsr_ne (by decide), rfl, fun k a b => zsr_ne (by omega)⟩
theorem zkI_ra {n : Int} {T : Nat → Int} {S : Nat → Nat → Int} : zkI S (zra n T S).2 := ⟨zra_k _ _ _ (by decide) (by decide), zra_num _ _ _ (Or.inr rfl), fun k a b => zra_k _ _ _ (by omega) (by omega)⟩
theorem zkI_rf {n : Int} {T : Nat → Int} {o : Nat} {stt : Int} {S : Nat → Nat → Int} : zkI S (zrf n T o stt S).2 := by
  have h := zrf_sim n T o stt S
  exact ⟨h.2 1 (by decide) (by decide) (by decide) (by omega), h.1.2, fun k a b => h.2 k (by omega) (by omega) (by omega) (by omega)⟩
theorem zkI_ct {o : Nat} {S : Nat → Nat → Int} : zkI S (zct o S) := ⟨zct_k _ _ (by omega) (by omega), zct_num _ _ _, fun k a b => zct_k _ _ (by omega) (by omega)⟩
theorem zkI_cl {o : Nat} {S : Nat → Nat → Int} : zkI S (zcl o S) := zkI_ct.trans ⟨zset_ne _ _ (by decide), by unfold zcl; rw [zset_ne _ _ (by decide)], fun k a b => zset_ne _ _ (by omega)⟩
theorem zkI_bg2 {n : Int} {T : Nat → Int} {o : Nat} {S : Nat → Nat → Int} : zkI S (zbg2 o (ztk n T 45 S)) := zkI_tk.trans ⟨zset_ne _ _ (by decide), by unfold zbg2; rw [zset_ne _ _ (by decide)], fun k a b => zset_ne _ _ (by omega)⟩
theorem zkI_bg {n : Int} {T : Nat → Int} {o : Nat} {S : Nat → Nat → Int} : zkI S (zbg n T o S) := ⟨zbg_k _ _ _ _ (by decide) (by decide) (by omega) (by omega), zbg_num _ _ _ _ (by decide), fun k a b => zbg_k _ _ _ _ (by omega) (by omega) (by omega) (by omega)⟩
theorem zrs3_ok {n p : Int} {T : Nat → Int} {o : Nat} {S : Nat → Nat → Int} (h : zqI n p S o) : zqI n p (zrs3 n T o S).2.2.2 o ∧ (zrs3 n T o S).2.2.1 = o ∧ zkI S (zrs3 n T o S).2.2.2 := by
  have h1 := h.tk (T := T) (sg := 43) (by decide)
  have k1 : zkI S (ztk n T 43 S).2 := zkI_tk
  unfold zrs3
  split
  · split
    · exact ⟨h1, rfl, k1⟩
    · exact ⟨h1.keep h1.1 rfl (fun k hk => zfl_k (by omega)), rfl, k1.trans zkI_fl⟩
  · exact ⟨h1, rfl, k1⟩
theorem zrs2_ok {n p : Int} {T : Nat → Int} {o : Nat} {S : Nat → Nat → Int} (h : zqI n p S o) (ho : o ≤ 40) (hp : 2 ≤ p) : zqI n p (zrs2 n T o S).2.2.2 o ∧ (zrs2 n T o S).2.2.1 = o ∧ zkI S (zrs2 n T o S).2.2.2 := by
  have h1 := h.tk (T := T) (sg := 42) (by decide)
  have h2 := (h1.ct (j := o) (Int.le_refl _) (by omega) hp).bg2 (T := T) (j := o)
  have hk : zkI S (zbg2 o (ztk n T 45 (zct o (ztk n T 42 S).2))) := (zkI_tk.trans zkI_ct).trans zkI_bg2
  unfold zrs2
  split
  · split
    · have h3 := zrs3_ok (T := T) h2
      exact ⟨h3.1, h3.2.1, hk.trans h3.2.2⟩
    · exact ⟨h2, rfl, hk⟩
  · exact ⟨h1, rfl, zkI_tk⟩
theorem zcw_ok {n p : Int} {T : Nat → Int} (hp : 2 ≤ p) : ∀ (m : Nat) (S : Nat → Nat → Int), zqI n p S m → m ≤ 40 → zqI n p (zcw n T m S).2.2 (zcw n T m S).2.1 ∧ (zcw n T m S).2.1 ≤ 40 ∧ zkI S (zcw n T m S).2.2
  | 0, S, h, ho => ⟨h, ho, zkI.refl⟩
  | m + 1, S, h, ho => by
    have h1 := h.tk (T := T) (sg := 41) (by decide)
    have h2 : zqI n p (zcl (m + 1) (ztk n T 41 S).2) ((m + 1 : Nat) : Int) := (h1.ct (j := m + 1) (Int.le_refl _) (by omega) hp).up (Or.inl rfl)
    have h3 := (h2.less (o2 := (m : Int)) (by omega)).rf (T := T) (j := m) (stt := zcl (m + 1) (ztk n T 41 S).2 3 m) (Int.le_refl _) (by omega) hp
    have k2 : zkI S (zcl (m + 1) (ztk n T 41 S).2) := zkI_tk.trans zkI_cl
    rw [zcw_s]
    split
    · exact ⟨h1, ho, zkI_tk⟩
    · split
      · exact ⟨h3, by show m ≤ 40; omega, k2.trans zkI_rf⟩
      · obtain ⟨a, b, c⟩ := zcw_ok hp m _ h3 (by omega)
        exact ⟨a, b, (k2.trans zkI_rf).trans c⟩
theorem zrs0_ok {n p : Int} {T : Nat → Int} {o : Nat} {S : Nat → Nat → Int} (hn : 0 ≤ n ∧ n ≤ 1000) (h : zqI n p S o) (ho : o ≤ 40) (hp : 2 ≤ p) : zqI n p (zrs0 n T o S).2.2.2 (zrs0 n T o S).2.2.1 ∧ (zrs0 n T o S).2.2.1 ≤ 40 ∧ zkI S (zrs0 n T o S).2.2.2 := by
  have h1 := h.sk (T := T)
  have h2 := h1.tk (T := T) (sg := 40) (by decide)
  have k2 : zkI S (ztk n T 40 (zskS n T S)).2 := zkI_sk.trans zkI_tk
  have hpl := h1.1
  unfold zrs0
  split
  · unfold zrs1
    have h3 := h2.ra (T := T)
    have h4 := h3.rf (T := T) (j := o) (stt := zskS n T S 0 0) (Int.le_refl _) (by omega) hp
    have k4 := (k2.trans (zkI_ra (n := n) (T := T))).trans (zkI_rf (n := n) (T := T) (o := o) (stt := zskS n T S 0 0))
    split
    · exact ⟨h3, ho, k2.trans zkI_ra⟩
    · split
      · exact ⟨h4, ho, k4⟩
      · obtain ⟨a, b, c⟩ := zcw_ok (T := T) hp o _ h4 ho
        split
        · exact ⟨a, b, k4.trans c⟩
        · have h5 := zrs2_ok (T := T) a b hp
          exact ⟨by rw [h5.2.1]; exact h5.1, by rw [h5.2.1]; exact b, (k4.trans c).trans h5.2.2⟩
  · split
    · exact ⟨h2.keep h2.1 rfl (fun k hk => zfl_k (by omega)), ho, k2.trans zkI_fl⟩
    · have h3 := h2.st (j := o) (x := zskS n T S 0 0) (by omega)
      exact ⟨zqI.bg (o := o + 1) (h3.less (by omega)) (by omega) hp, by show o + 1 ≤ 40; omega, (k2.trans ⟨zset_ne _ _ (by decide), by rw [zset_ne _ _ (by decide)], fun k a b => zset_ne _ _ (by omega)⟩).trans zkI_bg⟩
theorem zrsF_ok {n p : Int} {T : Nat → Int} (hn : 0 ≤ n ∧ n ≤ 1000) (hp : 2 ≤ p) : ∀ (m o : Nat) (S : Nat → Nat → Int), zqI n p S o → o ≤ 40 → zqI n p (zrsF n T m o S).2 0 ∧ zkI S (zrsF n T m o S).2
  | 0, o, S, h, _ => ⟨h.less (by omega), zkI.refl⟩
  | m + 1, o, S, h, ho => by
    obtain ⟨a, b, c⟩ := zrs0_ok (T := T) hn h ho hp
    rw [zrsF_s]
    split
    · exact ⟨a.less (by omega), c⟩
    · obtain ⟨d, e⟩ := zrsF_ok (T := T) hn hp m _ _ a b
      exact ⟨d, c.trans e⟩
theorem zrs_ok {n : Int} {T : Nat → Int} {S : Nat → Nat → Int} (hn : 0 ≤ n ∧ n ≤ 1000) (hpl : 0 ≤ S 0 0 ∧ S 0 0 ≤ n) (hp : 2 ≤ S 0 3) (hm : zmI S) (hs : zsI S) : zqI n (S 0 3) (zrs n T S).2 0 ∧ zkI S (zrs n T S).2 := by
  obtain ⟨a, b⟩ := zrsF_ok (n := n) (p := S 0 3) (T := T) hn hp (n + 1 - 0).toNat 0 (zbg n T 0 S) (zqI.bg (o := 0) ⟨hpl, rfl, fun q hq => by omega, hm, hs⟩ (by decide) hp) (by decide)
  exact ⟨a, zkI_bg.trans b⟩
theorem zrs_01 (n : Int) (T : Nat → Int) (S : Nat → Nat → Int) : (zrs n T S).1 = 0 ∨ (zrs n T S).1 = 1 := by
  have h3 : ∀ o A, (zrs3 n T o A).2.1 = 0 ∨ (zrs3 n T o A).2.1 = 1 := fun o A => by
    unfold zrs3
    split
    · split
      · exact Or.inr rfl
      · exact Or.inl rfl
    · exact Or.inl rfl
  have h2 : ∀ o A, (zrs2 n T o A).2.1 = 0 ∨ (zrs2 n T o A).2.1 = 1 := fun o A => by
    unfold zrs2
    split
    · split
      · exact h3 _ _
      · exact Or.inl rfl
    · exact Or.inl rfl
  have h0 : ∀ o A, (zrs0 n T o A).2.1 = 0 ∨ (zrs0 n T o A).2.1 = 1 := fun o A => by
    unfold zrs0
    split
    · unfold zrs1
      split
      · exact Or.inl rfl
      · split
        · exact Or.inl rfl
        · split
          · exact Or.inl rfl
          · exact h2 _ _
    · split
      · exact Or.inl rfl
      · exact Or.inl rfl
  have hF : ∀ m o A, (zrsF n T m o A).1 = 0 ∨ (zrsF n T m o A).1 = 1 := fun m => by
    induction m with
    | zero => intro o A; exact Or.inl rfl
    | succ m ih =>
      intro o A
      rw [zrsF_s]
      split
      · exact h0 _ _
      · exact ih _ _
  exact hF _ _ _
/-- the numbers of a text that is read -/
def zlI (S : Nat → Nat → Int) : Prop := ∀ k, 0 ≤ S 1 k ∧ S 1 k ≤ 31
def zdI (S : Nat → Nat → Int) : Prop := ∀ k : Nat, (k : Int) < S 0 4 → zcan (S 0 3) (S (7 + k))
def zcI (n : Int) (S : Nat → Nat → Int) : Prop := (0 ≤ S 0 0 ∧ S 0 0 ≤ n) ∧ (2 ≤ S 0 3 ∧ S 0 3 ≤ 31) ∧ (0 ≤ S 0 4 ∧ S 0 4 ≤ 6) ∧ zmI S ∧ zsI S ∧ zlI S ∧ zdI S
theorem zcI.keep {n : Int} {S S2 : Nat → Nat → Int} (h : zcI n S) (h0 : 0 ≤ S2 0 0 ∧ S2 0 0 ≤ n) (h3 : S2 0 3 = S 0 3) (h4 : S2 0 4 = S 0 4) (hk : ∀ k, k = 1 ∨ k = 2 ∨ k = 3 ∨ (7 ≤ k ∧ k ≤ 12) → S2 k = S k) : zcI n S2 := by
  obtain ⟨a, b, c, d, e, f, g⟩ := h
  refine ⟨h0, by rw [h3]; exact b, by rw [h4]; exact c, fun k => by rw [hk 2 (by omega)]; exact d k, fun k => by rw [hk 3 (by omega)]; exact e k, fun k => by rw [hk 1 (by omega)]; exact f k, fun k hkk => ?_⟩
  rw [h4] at hkk
  rw [h3, hk _ (by omega)]
  exact g k hkk
theorem zcI.sk {n : Int} {T : Nat → Int} {S : Nat → Nat → Int} (h : zcI n S) : zcI n (zskS n T S) := h.keep (by have := zsk_rng (T := T) h.1; have := h.1; show 0 ≤ zsk n T (S 0 0) ∧ zsk n T (S 0 0) ≤ n; omega) rfl rfl (fun k hk => zsr_ne (by omega))
theorem zcI.xp {n : Int} {T : Nat → Int} {S : Nat → Nat → Int} {sg : Int} (h : zcI n S) (hs : 0 ≤ sg) : zcI n (zxp n T sg S).2 := h.keep (by have := zxp_rng (T := T) h.1 hs; have := h.1; omega) (zxp_num _ _ _ _ (Or.inl rfl)) (zxp_num _ _ _ _ (Or.inr rfl)) (fun k hk => zxp_k _ _ _ _ (by omega))
theorem zcI.fl {n : Int} {S : Nat → Nat → Int} {k a : Int} (h : zcI n S) : zcI n (zfl k a S) := h.keep h.1 rfl rfl (fun k hk => zfl_k (by omega))
theorem zcI.pl {n : Int} {S : Nat → Nat → Int} {x y z : Int} (h : zcI n S) (hx : 0 ≤ x ∧ x ≤ n) : zcI n (zsr S x y z) := h.keep hx rfl rfl (fun k hk => zsr_ne (by omega))
theorem zcI.rn {n : Int} {T : Nat → Int} {S : Nat → Nat → Int} (h : zcI n S) : zcI n (zrn n T S).2 := h.pl (by have := zrnA_rng (T := T) h.1; have := h.1; omega)
theorem zcI.rs {n : Int} {T : Nat → Int} {S : Nat → Nat → Int} (h : zcI n S) (hn : 0 ≤ n ∧ n ≤ 1000) : zcI n (zrs n T S).2 ∧ zcan ((zrs n T S).2 0 3) ((zrs n T S).2 (20 + 0)) := by
  obtain ⟨a, b⟩ := zrs_ok (T := T) hn h.1 h.2.1.1 h.2.2.2.1 h.2.2.2.2.1
  refine ⟨⟨a.1, by rw [a.2.1]; exact h.2.1, by rw [b.2.1]; exact h.2.2.1, a.2.2.2.1, a.2.2.2.2, fun k => by rw [b.1]; exact h.2.2.2.2.2.1 k, fun k hk => ?_⟩, (a.2.2.1 0 (by decide)).1⟩
  have hc := h.2.2.1
  rw [b.2.1] at hk
  rw [a.2.1, b.2.2 _ (by omega) (by omega)]
  exact h.2.2.2.2.2.2 k hk
/-- how many letters are alike -/
def zalk_s (lt : Nat → Int) (cn c : Int) : Int → Int → Int := fun i a => if lt (cn * 6 + i).toNat = lt (c * 6 + i).toNat then a + 1 else a
def zalk (lt : Nat → Int) (cn c : Int) : Int := zfor (zalk_s lt cn c) 0 0 (6 - 0 : Int).toNat
def zntF (lt : Nat → Int) (cn : Int) : Nat → Int → Int
  | 0, _ => 0
  | m + 1, c => if zalk lt cn c = 6 then 1 else zntF lt cn m (c + 1)
def znt (lt : Nat → Int) (cn : Int) : Int := zntF lt cn (cn - 0).toNat 0
theorem zntF_s (lt : Nat → Int) (cn : Int) {c : Int} (h : c < cn) : zntF lt cn (cn - c).toNat c = if zalk lt cn c = 6 then 1 else zntF lt cn (cn - (c + 1)).toNat (c + 1) := by
  rw [show (cn - c).toNat = (cn - (c + 1)).toNat + 1 by omega]
  rfl
theorem zntF_01 (lt : Nat → Int) (cn : Int) : ∀ (m : Nat) (c : Int), zntF lt cn m c = 0 ∨ zntF lt cn m c = 1
  | 0, _ => Or.inl rfl
  | m + 1, c => by
    simp only [zntF]
    split
    · exact Or.inr rfl
    · exact zntF_01 lt cn m _
/-- a NAME -/
def zltr_s (n : Int) (T : Nat → Int) (cn a len : Int) : Int → (Nat → Int) → (Nat → Int) := fun i l => zsetL cn l i (if i < len then zby n T (a + i) - 97 + 1 else 0)
def zltr (n : Int) (T : Nat → Int) (cn a len : Int) (l : Nat → Int) : Nat → Int := zfor (zltr_s n T cn a len) 0 l (6 - 0 : Int).toNat
def zrnmB (n : Int) (T : Nat → Int) (a len : Int) : Prop := len < 1 ∨ 6 < len ∨ ¬ zwd n T 0 a = 0 ∨ ¬ zwd n T 1 a = 0 ∨ ¬ zwd n T 2 a = 0 ∨ ¬ zwd n T 3 a = 0
noncomputable def zrnm1 (n : Int) (T : Nat → Int) (a len : Int) (S : Nat → Nat → Int) : Int × (Nat → Nat → Int) := if znt (zltr n T (S 0 4) a len (S 1)) (S 0 4) = 0 then (1, zsr (zset S 1 (zltr n T (S 0 4) a len (S 1))) (a + len) (S 0 1) (S 0 2)) else (0, zfl 3 a (zset S 1 (zltr n T (S 0 4) a len (S 1))))
noncomputable def zrnm0 (n : Int) (T : Nat → Int) (a len : Int) (S : Nat → Nat → Int) : Int × (Nat → Nat → Int) := @ite _ (zrnmB n T a len) (Classical.propDecidable _) (0, zfl 1 a S) (zrnm1 n T a len S)
noncomputable def zrnm (n : Int) (T : Nat → Int) (S : Nat → Nat → Int) : Int × (Nat → Nat → Int) := zrnm0 n T (S 0 0) (zwe n T (S 0 0) - S 0 0) S
set_option maxRecDepth 100000 in
set_option maxHeartbeats 4000000 in
/-- Reader.isNameTaken -/
theorem c_isNameTaken (l : Launch) {D : va_G} {cI cJ cZ cP cS cM : ClassId} {L : List Nat} {sz : Nat} {f : Nat → va_E} (r : Nat) (n : Int) (T : Nat → Int) (S : Nat → Nat → Int) (hT : ztape n T) (h4 : 0 ≤ S 0 4 ∧ S 0 4 ≤ 5) (hl1 : zlI S) : zMi l yX3_isNameTaken wsX3_isNameTaken 0 0 D (zT cI cJ cZ cP cS cM) L sz (zRO cI cP cZ r n T S f) [.ref r] (fun z g => z = znt (S 1) (S 0 4) ∧ g = zRO cI cP cZ r n T S f) := by
  refine zWalk.met (nL := 5) (ret := (some .boolean)) (cc := cX3_isNameTaken) (by decide) rfl (Nat.le_of_ble_eq_true rfl) ?_
  intro pg en st mi ag bl mt cd ls CX hW hl
  have CX : zC pg st mi ag mt cd cX3_isNameTaken 5 (some .boolean) RX3 wsX3_isNameTaken := CX
  generalize hQ : MQ bl _ ag st 0 0 _ = Q
  have hX0 := CX.1
  have hB0 := CX.2.1
  have hl : lv_has ls 5 [(0, .ref r)] := hl
  obtain ⟨H, eH⟩ : ∃ H, H = st.heap := ⟨_, rfl⟩
  obtain ⟨locs, eL⟩ : ∃ L : List Loc, L = [] := ⟨_, rfl⟩
  have hW : zW D (zT cI cJ cZ cP cS cM) L (zQ L sz) st (zRO cI cP cZ r n T S f) st.heap H locs := by rw [eH, eL]; exact hW
  suffices hgo : W pg l en ({ frames := 0, cells := 0, slots := 0, locals := 0 } : Room) st mi ag bl mt cd H locs 0 0 Q (F0 mi 0 ls []) by rw [eH, eL] at hgo; exact hgo
  clear eH eL
  have hn0 := hT.1
  have hn1 := hT.2.1
  refine lv_aload_n hX0 hB0 dX3_isNameTaken_0 rfl (lv_at hl 0 rfl) ?_
  refine z_get (Cn := RX3) (T := TX3) (N := 13) CX hW (v := .ref (r + 1)) zRO_0 rfl (fun w h => List.mem_cons_of_mem _ (List.mem_append_left _ (List.mem_append_right _ h))) 3 (by decide) (List.mem_of_getElem? (i := 1) rfl) rfl rfl dX3_isNameTaken_1 ?_
  refine z_get (Cn := RX7) (T := TX7) (N := 4) CX hW (v := .int (zI (S 0 4))) zRO_1 rfl (fun w h => List.mem_cons_of_mem _ (List.mem_append_right _ h)) 1 (by decide) (List.mem_of_getElem? (i := 2) rfl) rfl rfl dX3_isNameTaken_4 ?_
  refine lv_bipush (v := zI 6) hX0 hB0 dX3_isNameTaken_7 (by decide) ?_
  refine z_imul (z := (S 0 4) * 6) CX dX3_isNameTaken_9 rfl ?_
  refine lv_istore_n (lv' := [(1, .int (zI ((S 0 4) * 6))), (0, .ref r)]) hX0 hB0 dX3_isNameTaken_10 rfl hl (by decide) rfl (fun ls hl => ?_)
  refine lv_iconst (v := zI 0) hX0 hB0 dX3_isNameTaken_11 rfl ?_
  refine lv_istore_n (lv' := [(2, .int (zI 0)), (1, .int (zI ((S 0 4) * 6))), (0, .ref r)]) hX0 hB0 dX3_isNameTaken_12 rfl hl (by decide) rfl (fun ls hl => ?_)
  have hL13 : ∀ (fu : Nat) (c : Int), (0 ≤ c ∧ c ≤ S 0 4 ∧ znt (S 1) (S 0 4) = zntF (S 1) (S 0 4) (S 0 4 - c).toNat c) → (6 - c).toNat < fu → ∀ (H : Heap) (locs : List Loc) (ls : Array Slot), zW D (zT cI cJ cZ cP cS cM) L (zQ L sz) st (zRO cI cP cZ r n T S f) st.heap H locs → lv_has ls 5 [(2, .int (zI c)), (1, .int (zI ((S 0 4) * 6))), (0, .ref r)] → W pg l en ({ frames := 0, cells := 0, slots := 0, locals := 0 } : Room) st mi ag bl mt cd H locs 0 0 Q (F0 mi 13 ls []) := by
    intro fu
    induction fu with
    | zero => intro c _ hfu; exact absurd hfu (Nat.not_lt_zero _)
    | succ fu ih13 =>
      intro c hinv13 hfu13 H locs ls hW hl
      obtain ⟨hc0, hc1, hcz⟩ := hinv13
      refine lv_iload_n hX0 hB0 dX3_isNameTaken_13 rfl (lv_at hl 0 rfl) ?_
      refine lv_aload_n hX0 hB0 dX3_isNameTaken_14 rfl (lv_at hl 2 rfl) ?_
      refine z_get (Cn := RX3) (T := TX3) (N := 13) CX hW (v := .ref (r + 1)) zRO_0 rfl (fun w h => List.mem_cons_of_mem _ (List.mem_append_left _ (List.mem_append_right _ h))) 3 (by decide) (List.mem_of_getElem? (i := 1) rfl) rfl rfl dX3_isNameTaken_15 ?_
      refine z_get (Cn := RX7) (T := TX7) (N := 4) CX hW (v := .int (zI (S 0 4))) zRO_1 rfl (fun w h => List.mem_cons_of_mem _ (List.mem_append_right _ h)) 1 (by decide) (List.mem_of_getElem? (i := 2) rfl) rfl rfl dX3_isNameTaken_18 ?_
      refine z_icmp_ge (tgt := 101) CX dX3_isNameTaken_21 (by decide) (by constructor <;> omega) (by constructor <;> omega) (fun c_21 => ?_) (fun c_21 => ?_)
      ·
        refine lv_iconst (v := zI 0) hX0 hB0 dX3_isNameTaken_101 rfl ?_
        rw [← hQ]
        exact z_iret (z := 0) CX hW (by exact ⟨by rw [hcz, show (S 0 4 - c).toNat = 0 by omega]; rfl, rfl⟩) rfl dX3_isNameTaken_102
      ·
        refine lv_aload_n hX0 hB0 dX3_isNameTaken_24 rfl (lv_at hl 2 rfl) ?_
        refine z_get (Cn := RX3) (T := TX3) (N := 13) CX hW (v := .ref (r + 1)) zRO_0 rfl (fun w h => List.mem_cons_of_mem _ (List.mem_append_left _ (List.mem_append_right _ h))) 3 (by decide) (List.mem_of_getElem? (i := 1) rfl) rfl rfl dX3_isNameTaken_25 ?_
        refine z_get (Cn := RX7) (T := TX7) (N := 4) CX hW (v := .int (zI (S 0 4))) zRO_1 rfl (fun w h => List.mem_cons_of_mem _ (List.mem_append_right _ h)) 1 (by decide) (List.mem_of_getElem? (i := 2) rfl) rfl rfl dX3_isNameTaken_28 ?_
        refine lv_bipush (v := zI 6) hX0 hB0 dX3_isNameTaken_31 (by decide) ?_
        refine z_icmp_ge (tgt := 101) CX dX3_isNameTaken_33 (by decide) (by constructor <;> omega) (by constructor <;> omega) (fun c_33 => ?_) (fun c_33 => ?_)
        ·
          omega
        ·
          refine lv_iconst (v := zI 0) hX0 hB0 dX3_isNameTaken_36 rfl ?_
          refine lv_istore_n (lv' := [(3, .int (zI 0)), (2, .int (zI c)), (1, .int (zI ((S 0 4) * 6))), (0, .ref r)]) hX0 hB0 dX3_isNameTaken_37 rfl hl (by decide) rfl (fun ls hl => ?_)
          refine lv_iconst (v := zI 0) hX0 hB0 dX3_isNameTaken_38 rfl ?_
          refine lv_istore (lv' := [(4, .int (zI 0)), (3, .int (zI 0)), (2, .int (zI c)), (1, .int (zI ((S 0 4) * 6))), (0, .ref r)]) hX0 hB0 dX3_isNameTaken_39 hl (by decide) rfl (fun ls hl => ?_)
          have hL41 : ∀ (fu : Nat) (i : Int) (a : Int), (0 ≤ i ∧ (i ≤ 6 ∨ i = 0) ∧ a = zfor (zalk_s (S 1) (S 0 4) c) 0 0 (i - 0).toNat ∧ 0 ≤ a ∧ a ≤ i) → (6 - i).toNat < fu → ∀ (H : Heap) (locs : List Loc) (ls : Array Slot), zW D (zT cI cJ cZ cP cS cM) L (zQ L sz) st (zRO cI cP cZ r n T S f) st.heap H locs → lv_has ls 5 [(4, .int (zI i)), (3, .int (zI a)), (2, .int (zI c)), (1, .int (zI ((S 0 4) * 6))), (0, .ref r)] → W pg l en ({ frames := 0, cells := 0, slots := 0, locals := 0 } : Room) st mi ag bl mt cd H locs 0 0 Q (F0 mi 41 ls []) := by
            intro fu
            induction fu with
            | zero => intro i a _ hfu; exact absurd hfu (Nat.not_lt_zero _)
            | succ fu ih41 =>
              intro i a hinv41 hfu41 H locs ls hW hl
              obtain ⟨hi0, hi1, hea, ha0, ha1⟩ := hinv41
              refine lv_iload hX0 hB0 dX3_isNameTaken_41 (lv_at hl 0 rfl) ?_
              refine lv_bipush (v := zI 6) hX0 hB0 dX3_isNameTaken_43 (by decide) ?_
              refine z_icmp_ge (tgt := 87) CX dX3_isNameTaken_45 (by decide) (by constructor <;> omega) (by constructor <;> omega) (fun c_45 => ?_) (fun c_45 => ?_)
              ·
                have hak : a = zalk (S 1) (S 0 4) c := by rw [hea, show (i - 0).toNat = (6 - 0 : Int).toNat by omega]; rfl
                refine lv_iload_n hX0 hB0 dX3_isNameTaken_87 rfl (lv_at hl 1 rfl) ?_
                refine lv_bipush (v := zI 6) hX0 hB0 dX3_isNameTaken_88 (by decide) ?_
                refine z_icmp_ne (tgt := 95) CX dX3_isNameTaken_90 (by decide) (by constructor <;> omega) (by constructor <;> omega) (fun c_90 => ?_) (fun c_90 => ?_)
                ·
                  refine lv_iinc (v := zI (c + 1)) (lv' := [(2, .int (zI (c + 1))), (4, .int (zI i)), (3, .int (zI a)), (1, .int (zI ((S 0 4) * 6))), (0, .ref r)]) hX0 hB0 dX3_isNameTaken_95 hl (k := 2) rfl (zI_add _ _) (by decide) rfl (fun ls hl => ?_)
                  refine lv_goto (tgt := 13) hX0 hB0 dX3_isNameTaken_98 (by decide) ?_
                  exact ih13 (c + 1) ⟨by omega, by omega, by rw [hcz, zntF_s _ _ (by omega), if_neg (by rw [← hak]; exact c_90)]⟩ (by omega) H locs ls hW (lv_sub hl [0, 3, 4] rfl)
                ·
                  refine lv_iconst (v := zI 1) hX0 hB0 dX3_isNameTaken_93 rfl ?_
                  rw [← hQ]
                  exact z_iret (z := 1) CX hW (by exact ⟨by rw [hcz, zntF_s _ _ (by omega), if_pos (by rw [← hak]; exact c_90)], rfl⟩) rfl dX3_isNameTaken_94
              ·
                refine lv_aload_n hX0 hB0 dX3_isNameTaken_48 rfl (lv_at hl 4 rfl) ?_
                refine z_get (Cn := RX3) (T := TX3) (N := 13) CX hW (v := .ref (r + 1)) zRO_0 rfl (fun w h => List.mem_cons_of_mem _ (List.mem_append_left _ (List.mem_append_right _ h))) 3 (by decide) (List.mem_of_getElem? (i := 1) rfl) rfl rfl dX3_isNameTaken_49 ?_
                refine z_getN (host := "CurveMeets") (Cn := RX7) (T := TX7) (N := 4) CX hW (v := .ref (r + 3)) zRO_1 rfl (fun w h => List.mem_cons_of_mem _ (List.mem_append_right _ h)) 3 (by decide) (by decide +kernel) rfl rfl dX3_isNameTaken_52 ?_
                refine lv_iload_n hX0 hB0 dX3_isNameTaken_55 rfl (lv_at hl 3 rfl) ?_
                refine lv_iload hX0 hB0 dX3_isNameTaken_56 (lv_at hl 0 rfl) ?_
                refine z_iadd (z := ((S 0 4) * 6) + i) CX dX3_isNameTaken_58 rfl ?_
                refine z_iald (z := (S 1) ((((S 0 4) * 6) + i).toNat)) CX hW zRO_3 0 rfl (by refine ⟨?_, ?_, ?_⟩ <;> omega) rfl dX3_isNameTaken_59 ?_
                refine lv_aload_n hX0 hB0 dX3_isNameTaken_60 rfl (lv_at hl 4 rfl) ?_
                refine z_get (Cn := RX3) (T := TX3) (N := 13) CX hW (v := .ref (r + 1)) zRO_0 rfl (fun w h => List.mem_cons_of_mem _ (List.mem_append_left _ (List.mem_append_right _ h))) 3 (by decide) (List.mem_of_getElem? (i := 1) rfl) rfl rfl dX3_isNameTaken_61 ?_
                refine z_getN (host := "CurveMeets") (Cn := RX7) (T := TX7) (N := 4) CX hW (v := .ref (r + 3)) zRO_1 rfl (fun w h => List.mem_cons_of_mem _ (List.mem_append_right _ h)) 3 (by decide) (by decide +kernel) rfl rfl dX3_isNameTaken_64 ?_
                refine lv_iload_n hX0 hB0 dX3_isNameTaken_67 rfl (lv_at hl 2 rfl) ?_
                refine lv_bipush (v := zI 6) hX0 hB0 dX3_isNameTaken_68 (by decide) ?_
                refine z_imul (z := c * 6) CX dX3_isNameTaken_70 rfl ?_
                refine lv_iload hX0 hB0 dX3_isNameTaken_71 (lv_at hl 0 rfl) ?_
                refine z_iadd (z := (c * 6) + i) CX dX3_isNameTaken_73 rfl ?_
                refine z_iald (z := (S 1) (((c * 6) + i).toNat)) CX hW zRO_3 0 rfl (by refine ⟨?_, ?_, ?_⟩ <;> omega) rfl dX3_isNameTaken_74 ?_
                have hla := hl1 ((S 0 4) * 6 + i).toNat
                have hlb := hl1 (c * 6 + i).toNat
                refine z_icmp_ne (tgt := 81) CX dX3_isNameTaken_75 (by decide) (by constructor <;> omega) (by constructor <;> omega) (fun c_75 => ?_) (fun c_75 => ?_)
                ·
                  refine lv_iinc (v := zI (i + 1)) (lv' := [(4, .int (zI (i + 1))), (3, .int (zI a)), (2, .int (zI c)), (1, .int (zI ((S 0 4) * 6))), (0, .ref r)]) hX0 hB0 dX3_isNameTaken_81 hl (k := 0) rfl (zI_add _ _) (by decide) rfl (fun ls hl => ?_)
                  refine lv_goto (tgt := 41) hX0 hB0 dX3_isNameTaken_84 (by decide) ?_
                  exact ih41 (i + 1) a ⟨by omega, by omega, by rw [zfor_s _ _ _ hi0, ← hea]; first | exact (if_pos c_75).symm | exact (if_neg c_75).symm, by omega, by omega⟩ (by omega) H locs ls hW (lv_sub hl [0, 1, 2, 3, 4] rfl)
                ·
                  refine lv_iinc (v := zI (a + 1)) (lv' := [(3, .int (zI (a + 1))), (4, .int (zI i)), (2, .int (zI c)), (1, .int (zI ((S 0 4) * 6))), (0, .ref r)]) hX0 hB0 dX3_isNameTaken_78 hl (k := 1) rfl (zI_add _ _) (by decide) rfl (fun ls hl => ?_)
                  refine lv_iinc (v := zI (i + 1)) (lv' := [(4, .int (zI (i + 1))), (3, .int (zI (a + 1))), (2, .int (zI c)), (1, .int (zI ((S 0 4) * 6))), (0, .ref r)]) hX0 hB0 dX3_isNameTaken_81 hl (k := 1) rfl (zI_add _ _) (by decide) rfl (fun ls hl => ?_)
                  refine lv_goto (tgt := 41) hX0 hB0 dX3_isNameTaken_84 (by decide) ?_
                  exact ih41 (i + 1) (a + 1) ⟨by omega, by omega, by rw [zfor_s _ _ _ hi0, ← hea]; first | exact (if_pos c_75).symm | exact (if_neg c_75).symm, by omega, by omega⟩ (by omega) H locs ls hW (lv_sub hl [0, 1, 2, 3, 4] rfl)
          exact hL41 _ 0 0 ⟨by omega, by omega, rfl, by omega, by omega⟩ (Nat.lt_succ_self _) H locs ls hW (lv_sub hl [0, 1, 2, 3, 4] rfl)
  exact hL13 _ 0 ⟨by omega, by omega, rfl⟩ (Nat.lt_succ_self _) H locs ls hW (lv_sub hl [0, 1, 2] rfl)
theorem zset_id {α : Type} (f : Nat → α) (k : Nat) : zset f k (f k) = f := by
  funext j
  by_cases e : j = k
  · rw [e, zset_self]
  · rw [zset_ne _ _ e]
theorem zset_zset {α : Type} (f : Nat → α) (k : Nat) (x y : α) : zset (zset f k x) k y = zset f k y := by
  funext j
  by_cases e : j = k
  · rw [e, zset_self, zset_self]
  · rw [zset_ne _ _ e, zset_ne _ _ e, zset_ne _ _ e]
theorem zset_step {α : Type} {S A : Nat → α} {c : Nat} {x y : α} (h : A = zset S c x) : zset A c y = zset S c y := by rw [h, zset_zset]
theorem zsetL_rng {cn : Int} {l : Nat → Int} {i x : Int} (h : ∀ k, 0 ≤ l k ∧ l k ≤ 31) (hx : 0 ≤ x ∧ x ≤ 31) : ∀ k, 0 ≤ zsetL cn l i x k ∧ zsetL cn l i x k ≤ 31 := fun k => by
  unfold zsetL
  split
  · unfold zup
    split
    · exact hx
    · exact h k
  · exact h k
theorem zwe_low {n : Int} {T : Nat → Int} {a : Int} : ∀ (m : Nat) (b : Int), 0 ≤ b → b ≤ a → a < zweF n T m b → 97 ≤ zby n T a ∧ zby n T a ≤ 122
  | 0, b, h0, h1, h2 => by simp only [zweF] at h2; omega
  | m + 1, b, h0, h1, h2 => by
    simp only [zweF] at h2
    split at h2
    · rename_i h3
      by_cases e : a = b
      · rw [e]
        exact h3
      · exact zwe_low m (b + 1) (by omega) (by omega) h2
    · omega
set_option maxRecDepth 100000 in
set_option maxHeartbeats 4000000 in
/-- Reader.readName -/
theorem c_readName (l : Launch) {D : va_G} {cI cJ cZ cP cS cM : ClassId} {L : List Nat} {sz : Nat} {f : Nat → va_E} (r : Nat) (n : Int) (T : Nat → Int) (S : Nat → Nat → Int) (hT : ztape n T) (hc : zcI n S) (h4 : S 0 4 ≤ 5) : zMi l yX3_readName wsX3_readName 5 107 D (zT cI cJ cZ cP cS cM) L sz (zRO cI cP cZ r n T S f) [.ref r] (fun z g => z = (zrnm n T S).1 ∧ g = zRO cI cP cZ r n T (zrnm n T S).2 f) := by
  refine zWalk.met (nL := 4) (ret := (some .boolean)) (cc := cX3_readName) (by decide) rfl (Nat.le_of_ble_eq_true rfl) ?_
  intro pg en st mi ag bl mt cd ls CX hW hl
  have CX : zC pg st mi ag mt cd cX3_readName 4 (some .boolean) RX3 wsX3_readName := CX
  generalize hQ : MQ bl _ ag st 0 0 _ = Q
  have hX0 := CX.1
  have hB0 := CX.2.1
  have hl : lv_has ls 4 [(0, .ref r)] := hl
  obtain ⟨H, eH⟩ : ∃ H, H = st.heap := ⟨_, rfl⟩
  obtain ⟨locs, eL⟩ : ∃ L : List Loc, L = [] := ⟨_, rfl⟩
  have hW : zW D (zT cI cJ cZ cP cS cM) L (zQ L sz) st (zRO cI cP cZ r n T S f) st.heap H locs := by rw [eH, eL]; exact hW
  suffices hgo : W pg l en ({ frames := 5, cells := 0, slots := 0, locals := 107 } : Room) st mi ag bl mt cd H locs 0 0 Q (F0 mi 0 ls []) by rw [eH, eL] at hgo; exact hgo
  clear eH eL
  have hn0 := hT.1
  have hn1 := hT.2.1
  have hpl := hc.1
  have h40 := hc.2.2.1
  refine lv_aload_n hX0 hB0 dX3_readName_0 rfl (lv_at hl 0 rfl) ?_
  refine z_get (Cn := RX3) (T := TX3) (N := 13) CX hW (v := .int (zI (S 0 0))) zRO_0 rfl (fun w h => List.mem_cons_of_mem _ (List.mem_append_left _ (List.mem_append_left _ (List.mem_append_right _ h)))) 12 (by decide) (List.mem_of_getElem? (i := 1) rfl) rfl rfl dX3_readName_1 ?_
  refine lv_istore_n (lv' := [(1, .int (zI (S 0 0))), (0, .ref r)]) hX0 hB0 dX3_readName_4 rfl hl (by decide) rfl (fun ls hl => ?_)
  refine lv_aload_n hX0 hB0 dX3_readName_5 rfl (lv_at hl 1 rfl) ?_
  refine lv_iload_n hX0 hB0 dX3_readName_6 rfl (lv_at hl 0 rfl) ?_
  refine z_calli hW (va_runV (C := RX3) (As := [.int (zI (S 0 0))]) (rest := []) CX.fix (c_wordEnd l (f := f) r n T S (S 0 0) hT (by constructor <;> omega)) (cwV 1 CX.fix.2.2.2.2 gX3_readName_X3_wordEnd rfl rfl rfl (by decide +kernel) ⟨Nat.le_of_ble_eq_true rfl, Nat.le_of_ble_eq_true rfl⟩) (z_preV CX hW (r := (RX3, TX3, 13)) zRO_0 rfl) rfl rfl hl.1 rfl (lv_room (Nat.le_of_ble_eq_true rfl)) dX3_readName_7 ⟨Nat.zero_le _, Nat.zero_le _⟩) (fun zv gn H locs hok7 hW => ?_)
  obtain ⟨ez, eg⟩ := hok7
  have eg : gn = zRO cI cP cZ r n T S f := eg
  rw [eg] at hW
  clear eg
  have ez : zv = zwe n T (S 0 0) := ez
  rw [ez]
  clear ez
  have hwe7 := zwe_rng (n := n) (T := T) (a := S 0 0) (by omega)
  refine lv_iload_n hX0 hB0 dX3_readName_10 rfl (lv_at hl 0 rfl) ?_
  refine z_isub (z := (zwe n T (S 0 0)) - (S 0 0)) CX dX3_readName_11 rfl ?_
  refine lv_istore_n (lv' := [(2, .int (zI ((zwe n T (S 0 0)) - (S 0 0)))), (1, .int (zI (S 0 0))), (0, .ref r)]) hX0 hB0 dX3_readName_12 rfl hl (by decide) rfl (fun ls hl => ?_)
  refine lv_iload_n hX0 hB0 dX3_readName_13 rfl (lv_at hl 0 rfl) ?_
  refine lv_iconst (v := zI 1) hX0 hB0 dX3_readName_14 rfl ?_
  refine z_icmp_lt (tgt := 60) CX dX3_readName_15 (by decide) (by constructor <;> omega) (by constructor <;> omega) (fun c_15 => ?_) (fun c_15 => ?_)
  ·
    refine lv_aload_n hX0 hB0 dX3_readName_60 rfl (lv_at hl 2 rfl) ?_
    refine lv_iconst (v := zI 1) hX0 hB0 dX3_readName_61 rfl ?_
    refine lv_iload_n hX0 hB0 dX3_readName_62 rfl (lv_at hl 1 rfl) ?_
    refine z_calli hW (va_runV (C := RX3) (As := [.int (zI 1), .int (zI (S 0 0))]) (rest := []) CX.fix (c_fail l (f := f) r n T S 1 (S 0 0) hT (by constructor <;> omega) (by constructor <;> omega)) (cwV 2 CX.fix.2.2.2.2 gX3_readName_X3_fail rfl rfl rfl (by decide +kernel) ⟨Nat.le_of_ble_eq_true rfl, Nat.le_of_ble_eq_true rfl⟩) (z_preV CX hW (r := (RX3, TX3, 13)) zRO_0 rfl) rfl rfl hl.1 rfl (lv_room (Nat.le_of_ble_eq_true rfl)) dX3_readName_63 ⟨Nat.zero_le _, Nat.zero_le _⟩) (fun zv gn H locs hok63 hW => ?_)
    obtain ⟨hz63, hg63⟩ := hok63
    obtain ⟨z63, ezv63⟩ : ∃ q, q = zv := ⟨_, rfl⟩
    rw [← ezv63] at hz63 ⊢
    clear ezv63
    rw [hg63] at hW
    clear hg63
    obtain ⟨S63c, hS63c⟩ : ∃ q : Nat → Nat → Int, q = zfl 1 (S 0 0) S := ⟨_, rfl⟩
    rw [← hS63c] at hW
    have hS63c_0 : S63c 0 0 = S 0 0 := by rw [hS63c]; first | rfl | (simp [zsr, zsd, zset]; done) | ((repeat rw [zset_ne _ _ (by omega)]); first | done | rfl | (simp [zsr, zsd, zset]; done)) | (unfold zsd; (repeat (first | rw [zset_self] | rw [zset_ne _ _ (by omega)])); first | done | rfl | (simp; done))
    have hS63c_1 : S63c 0 1 = 1 := by rw [hS63c]; first | rfl | (simp [zsr, zsd, zset]; done) | ((repeat rw [zset_ne _ _ (by omega)]); first | done | rfl | (simp [zsr, zsd, zset]; done)) | (unfold zsd; (repeat (first | rw [zset_self] | rw [zset_ne _ _ (by omega)])); first | done | rfl | (simp; done))
    have hS63c_2 : S63c 0 2 = S 0 0 := by rw [hS63c]; first | rfl | (simp [zsr, zsd, zset]; done) | ((repeat rw [zset_ne _ _ (by omega)]); first | done | rfl | (simp [zsr, zsd, zset]; done)) | (unfold zsd; (repeat (first | rw [zset_self] | rw [zset_ne _ _ (by omega)])); first | done | rfl | (simp; done))
    have hS63c_3 : S63c 0 3 = S 0 3 := by rw [hS63c]; first | rfl | (simp [zsr, zsd, zset]; done) | ((repeat rw [zset_ne _ _ (by omega)]); first | done | rfl | (simp [zsr, zsd, zset]; done)) | (unfold zsd; (repeat (first | rw [zset_self] | rw [zset_ne _ _ (by omega)])); first | done | rfl | (simp; done))
    have hS63c_4 : S63c 0 4 = S 0 4 := by rw [hS63c]; first | rfl | (simp [zsr, zsd, zset]; done) | ((repeat rw [zset_ne _ _ (by omega)]); first | done | rfl | (simp [zsr, zsd, zset]; done)) | (unfold zsd; (repeat (first | rw [zset_self] | rw [zset_ne _ _ (by omega)])); first | done | rfl | (simp; done))
    rw [← hQ]
    refine z_iret (z := z63) CX hW ?_ (zI_bool (by omega)) dX3_readName_66
    have hb9 : zrnmB n T (S 0 0) ((zwe n T (S 0 0)) - (S 0 0)) := by unfold zrnmB; omega
    have hq : zrnm n T S = (0, S63c) := by unfold zrnm zrnm0; rw [if_pos hb9, ← hS63c]
    rw [hq]
    exact ⟨hz63, rfl⟩
  ·
    refine lv_iload_n hX0 hB0 dX3_readName_18 rfl (lv_at hl 0 rfl) ?_
    refine lv_bipush (v := zI 6) hX0 hB0 dX3_readName_19 (by decide) ?_
    refine z_icmp_gt (tgt := 60) CX dX3_readName_21 (by decide) (by constructor <;> omega) (by constructor <;> omega) (fun c_21 => ?_) (fun c_21 => ?_)
    ·
      refine lv_aload_n hX0 hB0 dX3_readName_60 rfl (lv_at hl 2 rfl) ?_
      refine lv_iconst (v := zI 1) hX0 hB0 dX3_readName_61 rfl ?_
      refine lv_iload_n hX0 hB0 dX3_readName_62 rfl (lv_at hl 1 rfl) ?_
      refine z_calli hW (va_runV (C := RX3) (As := [.int (zI 1), .int (zI (S 0 0))]) (rest := []) CX.fix (c_fail l (f := f) r n T S 1 (S 0 0) hT (by constructor <;> omega) (by constructor <;> omega)) (cwV 2 CX.fix.2.2.2.2 gX3_readName_X3_fail rfl rfl rfl (by decide +kernel) ⟨Nat.le_of_ble_eq_true rfl, Nat.le_of_ble_eq_true rfl⟩) (z_preV CX hW (r := (RX3, TX3, 13)) zRO_0 rfl) rfl rfl hl.1 rfl (lv_room (Nat.le_of_ble_eq_true rfl)) dX3_readName_63 ⟨Nat.zero_le _, Nat.zero_le _⟩) (fun zv gn H locs hok63 hW => ?_)
      obtain ⟨hz63, hg63⟩ := hok63
      obtain ⟨z63, ezv63⟩ : ∃ q, q = zv := ⟨_, rfl⟩
      rw [← ezv63] at hz63 ⊢
      clear ezv63
      rw [hg63] at hW
      clear hg63
      obtain ⟨S63c, hS63c⟩ : ∃ q : Nat → Nat → Int, q = zfl 1 (S 0 0) S := ⟨_, rfl⟩
      rw [← hS63c] at hW
      have hS63c_0 : S63c 0 0 = S 0 0 := by rw [hS63c]; first | rfl | (simp [zsr, zsd, zset]; done) | ((repeat rw [zset_ne _ _ (by omega)]); first | done | rfl | (simp [zsr, zsd, zset]; done)) | (unfold zsd; (repeat (first | rw [zset_self] | rw [zset_ne _ _ (by omega)])); first | done | rfl | (simp; done))
      have hS63c_1 : S63c 0 1 = 1 := by rw [hS63c]; first | rfl | (simp [zsr, zsd, zset]; done) | ((repeat rw [zset_ne _ _ (by omega)]); first | done | rfl | (simp [zsr, zsd, zset]; done)) | (unfold zsd; (repeat (first | rw [zset_self] | rw [zset_ne _ _ (by omega)])); first | done | rfl | (simp; done))
      have hS63c_2 : S63c 0 2 = S 0 0 := by rw [hS63c]; first | rfl | (simp [zsr, zsd, zset]; done) | ((repeat rw [zset_ne _ _ (by omega)]); first | done | rfl | (simp [zsr, zsd, zset]; done)) | (unfold zsd; (repeat (first | rw [zset_self] | rw [zset_ne _ _ (by omega)])); first | done | rfl | (simp; done))
      have hS63c_3 : S63c 0 3 = S 0 3 := by rw [hS63c]; first | rfl | (simp [zsr, zsd, zset]; done) | ((repeat rw [zset_ne _ _ (by omega)]); first | done | rfl | (simp [zsr, zsd, zset]; done)) | (unfold zsd; (repeat (first | rw [zset_self] | rw [zset_ne _ _ (by omega)])); first | done | rfl | (simp; done))
      have hS63c_4 : S63c 0 4 = S 0 4 := by rw [hS63c]; first | rfl | (simp [zsr, zsd, zset]; done) | ((repeat rw [zset_ne _ _ (by omega)]); first | done | rfl | (simp [zsr, zsd, zset]; done)) | (unfold zsd; (repeat (first | rw [zset_self] | rw [zset_ne _ _ (by omega)])); first | done | rfl | (simp; done))
      rw [← hQ]
      refine z_iret (z := z63) CX hW ?_ (zI_bool (by omega)) dX3_readName_66
      have hb9 : zrnmB n T (S 0 0) ((zwe n T (S 0 0)) - (S 0 0)) := by unfold zrnmB; omega
      have hq : zrnm n T S = (0, S63c) := by unfold zrnm zrnm0; rw [if_pos hb9, ← hS63c]
      rw [hq]
      exact ⟨hz63, rfl⟩
    ·
      refine lv_aload_n hX0 hB0 dX3_readName_24 rfl (lv_at hl 2 rfl) ?_
      refine z_ldcs CX hW 0 (by decide) rfl dX3_readName_25 ?_
      refine z_calli hW (va_runV (C := RX3) (As := [.ref (D.2 98 0)]) (rest := []) CX.fix (c_standsWord l (f := f) r n T S 0 hT (by omega) (by decide)) (cwV 1 CX.fix.2.2.2.2 gX3_readName_X3_standsWord rfl rfl rfl (by decide +kernel) ⟨Nat.le_of_ble_eq_true rfl, Nat.le_of_ble_eq_true rfl⟩) (z_preV CX hW (r := (RX3, TX3, 13)) zRO_0 rfl) rfl rfl hl.1 rfl (lv_room (Nat.le_of_ble_eq_true rfl)) dX3_readName_27 ⟨Nat.zero_le _, Nat.zero_le _⟩) (fun zv gn H locs hok27 hW => ?_)
      obtain ⟨ez, eg⟩ := hok27
      have eg : gn = zRO cI cP cZ r n T S f := eg
      rw [eg] at hW
      clear eg
      have ez : zv = zwd n T 0 (S 0 0) := ez
      rw [ez]
      clear ez
      have hwd27 := zwd_01 n T 0 (S 0 0)
      refine z_if_ne (tgt := 60) CX dX3_readName_30 (by decide) (by constructor <;> omega) (fun c_30 => ?_) (fun c_30 => ?_)
      ·
        refine lv_aload_n hX0 hB0 dX3_readName_60 rfl (lv_at hl 2 rfl) ?_
        refine lv_iconst (v := zI 1) hX0 hB0 dX3_readName_61 rfl ?_
        refine lv_iload_n hX0 hB0 dX3_readName_62 rfl (lv_at hl 1 rfl) ?_
        refine z_calli hW (va_runV (C := RX3) (As := [.int (zI 1), .int (zI (S 0 0))]) (rest := []) CX.fix (c_fail l (f := f) r n T S 1 (S 0 0) hT (by constructor <;> omega) (by constructor <;> omega)) (cwV 2 CX.fix.2.2.2.2 gX3_readName_X3_fail rfl rfl rfl (by decide +kernel) ⟨Nat.le_of_ble_eq_true rfl, Nat.le_of_ble_eq_true rfl⟩) (z_preV CX hW (r := (RX3, TX3, 13)) zRO_0 rfl) rfl rfl hl.1 rfl (lv_room (Nat.le_of_ble_eq_true rfl)) dX3_readName_63 ⟨Nat.zero_le _, Nat.zero_le _⟩) (fun zv gn H locs hok63 hW => ?_)
        obtain ⟨hz63, hg63⟩ := hok63
        obtain ⟨z63, ezv63⟩ : ∃ q, q = zv := ⟨_, rfl⟩
        rw [← ezv63] at hz63 ⊢
        clear ezv63
        rw [hg63] at hW
        clear hg63
        obtain ⟨S63c, hS63c⟩ : ∃ q : Nat → Nat → Int, q = zfl 1 (S 0 0) S := ⟨_, rfl⟩
        rw [← hS63c] at hW
        have hS63c_0 : S63c 0 0 = S 0 0 := by rw [hS63c]; first | rfl | (simp [zsr, zsd, zset]; done) | ((repeat rw [zset_ne _ _ (by omega)]); first | done | rfl | (simp [zsr, zsd, zset]; done)) | (unfold zsd; (repeat (first | rw [zset_self] | rw [zset_ne _ _ (by omega)])); first | done | rfl | (simp; done))
        have hS63c_1 : S63c 0 1 = 1 := by rw [hS63c]; first | rfl | (simp [zsr, zsd, zset]; done) | ((repeat rw [zset_ne _ _ (by omega)]); first | done | rfl | (simp [zsr, zsd, zset]; done)) | (unfold zsd; (repeat (first | rw [zset_self] | rw [zset_ne _ _ (by omega)])); first | done | rfl | (simp; done))
        have hS63c_2 : S63c 0 2 = S 0 0 := by rw [hS63c]; first | rfl | (simp [zsr, zsd, zset]; done) | ((repeat rw [zset_ne _ _ (by omega)]); first | done | rfl | (simp [zsr, zsd, zset]; done)) | (unfold zsd; (repeat (first | rw [zset_self] | rw [zset_ne _ _ (by omega)])); first | done | rfl | (simp; done))
        have hS63c_3 : S63c 0 3 = S 0 3 := by rw [hS63c]; first | rfl | (simp [zsr, zsd, zset]; done) | ((repeat rw [zset_ne _ _ (by omega)]); first | done | rfl | (simp [zsr, zsd, zset]; done)) | (unfold zsd; (repeat (first | rw [zset_self] | rw [zset_ne _ _ (by omega)])); first | done | rfl | (simp; done))
        have hS63c_4 : S63c 0 4 = S 0 4 := by rw [hS63c]; first | rfl | (simp [zsr, zsd, zset]; done) | ((repeat rw [zset_ne _ _ (by omega)]); first | done | rfl | (simp [zsr, zsd, zset]; done)) | (unfold zsd; (repeat (first | rw [zset_self] | rw [zset_ne _ _ (by omega)])); first | done | rfl | (simp; done))
        rw [← hQ]
        refine z_iret (z := z63) CX hW ?_ (zI_bool (by omega)) dX3_readName_66
        have hb9 : zrnmB n T (S 0 0) ((zwe n T (S 0 0)) - (S 0 0)) := by unfold zrnmB; omega
        have hq : zrnm n T S = (0, S63c) := by unfold zrnm zrnm0; rw [if_pos hb9, ← hS63c]
        rw [hq]
        exact ⟨hz63, rfl⟩
      ·
        refine lv_aload_n hX0 hB0 dX3_readName_33 rfl (lv_at hl 2 rfl) ?_
        refine z_ldcs CX hW 1 (by decide) rfl dX3_readName_34 ?_
        refine z_calli hW (va_runV (C := RX3) (As := [.ref (D.2 98 1)]) (rest := []) CX.fix (c_standsWord l (f := f) r n T S 1 hT (by omega) (by decide)) (cwV 1 CX.fix.2.2.2.2 gX3_readName_X3_standsWord rfl rfl rfl (by decide +kernel) ⟨Nat.le_of_ble_eq_true rfl, Nat.le_of_ble_eq_true rfl⟩) (z_preV CX hW (r := (RX3, TX3, 13)) zRO_0 rfl) rfl rfl hl.1 rfl (lv_room (Nat.le_of_ble_eq_true rfl)) dX3_readName_36 ⟨Nat.zero_le _, Nat.zero_le _⟩) (fun zv gn H locs hok36 hW => ?_)
        obtain ⟨ez, eg⟩ := hok36
        have eg : gn = zRO cI cP cZ r n T S f := eg
        rw [eg] at hW
        clear eg
        have ez : zv = zwd n T 1 (S 0 0) := ez
        rw [ez]
        clear ez
        have hwd36 := zwd_01 n T 1 (S 0 0)
        refine z_if_ne (tgt := 60) CX dX3_readName_39 (by decide) (by constructor <;> omega) (fun c_39 => ?_) (fun c_39 => ?_)
        ·
          refine lv_aload_n hX0 hB0 dX3_readName_60 rfl (lv_at hl 2 rfl) ?_
          refine lv_iconst (v := zI 1) hX0 hB0 dX3_readName_61 rfl ?_
          refine lv_iload_n hX0 hB0 dX3_readName_62 rfl (lv_at hl 1 rfl) ?_
          refine z_calli hW (va_runV (C := RX3) (As := [.int (zI 1), .int (zI (S 0 0))]) (rest := []) CX.fix (c_fail l (f := f) r n T S 1 (S 0 0) hT (by constructor <;> omega) (by constructor <;> omega)) (cwV 2 CX.fix.2.2.2.2 gX3_readName_X3_fail rfl rfl rfl (by decide +kernel) ⟨Nat.le_of_ble_eq_true rfl, Nat.le_of_ble_eq_true rfl⟩) (z_preV CX hW (r := (RX3, TX3, 13)) zRO_0 rfl) rfl rfl hl.1 rfl (lv_room (Nat.le_of_ble_eq_true rfl)) dX3_readName_63 ⟨Nat.zero_le _, Nat.zero_le _⟩) (fun zv gn H locs hok63 hW => ?_)
          obtain ⟨hz63, hg63⟩ := hok63
          obtain ⟨z63, ezv63⟩ : ∃ q, q = zv := ⟨_, rfl⟩
          rw [← ezv63] at hz63 ⊢
          clear ezv63
          rw [hg63] at hW
          clear hg63
          obtain ⟨S63c, hS63c⟩ : ∃ q : Nat → Nat → Int, q = zfl 1 (S 0 0) S := ⟨_, rfl⟩
          rw [← hS63c] at hW
          have hS63c_0 : S63c 0 0 = S 0 0 := by rw [hS63c]; first | rfl | (simp [zsr, zsd, zset]; done) | ((repeat rw [zset_ne _ _ (by omega)]); first | done | rfl | (simp [zsr, zsd, zset]; done)) | (unfold zsd; (repeat (first | rw [zset_self] | rw [zset_ne _ _ (by omega)])); first | done | rfl | (simp; done))
          have hS63c_1 : S63c 0 1 = 1 := by rw [hS63c]; first | rfl | (simp [zsr, zsd, zset]; done) | ((repeat rw [zset_ne _ _ (by omega)]); first | done | rfl | (simp [zsr, zsd, zset]; done)) | (unfold zsd; (repeat (first | rw [zset_self] | rw [zset_ne _ _ (by omega)])); first | done | rfl | (simp; done))
          have hS63c_2 : S63c 0 2 = S 0 0 := by rw [hS63c]; first | rfl | (simp [zsr, zsd, zset]; done) | ((repeat rw [zset_ne _ _ (by omega)]); first | done | rfl | (simp [zsr, zsd, zset]; done)) | (unfold zsd; (repeat (first | rw [zset_self] | rw [zset_ne _ _ (by omega)])); first | done | rfl | (simp; done))
          have hS63c_3 : S63c 0 3 = S 0 3 := by rw [hS63c]; first | rfl | (simp [zsr, zsd, zset]; done) | ((repeat rw [zset_ne _ _ (by omega)]); first | done | rfl | (simp [zsr, zsd, zset]; done)) | (unfold zsd; (repeat (first | rw [zset_self] | rw [zset_ne _ _ (by omega)])); first | done | rfl | (simp; done))
          have hS63c_4 : S63c 0 4 = S 0 4 := by rw [hS63c]; first | rfl | (simp [zsr, zsd, zset]; done) | ((repeat rw [zset_ne _ _ (by omega)]); first | done | rfl | (simp [zsr, zsd, zset]; done)) | (unfold zsd; (repeat (first | rw [zset_self] | rw [zset_ne _ _ (by omega)])); first | done | rfl | (simp; done))
          rw [← hQ]
          refine z_iret (z := z63) CX hW ?_ (zI_bool (by omega)) dX3_readName_66
          have hb9 : zrnmB n T (S 0 0) ((zwe n T (S 0 0)) - (S 0 0)) := by unfold zrnmB; omega
          have hq : zrnm n T S = (0, S63c) := by unfold zrnm zrnm0; rw [if_pos hb9, ← hS63c]
          rw [hq]
          exact ⟨hz63, rfl⟩
        ·
          refine lv_aload_n hX0 hB0 dX3_readName_42 rfl (lv_at hl 2 rfl) ?_
          refine z_ldcs CX hW 2 (by decide) rfl dX3_readName_43 ?_
          refine z_calli hW (va_runV (C := RX3) (As := [.ref (D.2 98 2)]) (rest := []) CX.fix (c_standsWord l (f := f) r n T S 2 hT (by omega) (by decide)) (cwV 1 CX.fix.2.2.2.2 gX3_readName_X3_standsWord rfl rfl rfl (by decide +kernel) ⟨Nat.le_of_ble_eq_true rfl, Nat.le_of_ble_eq_true rfl⟩) (z_preV CX hW (r := (RX3, TX3, 13)) zRO_0 rfl) rfl rfl hl.1 rfl (lv_room (Nat.le_of_ble_eq_true rfl)) dX3_readName_45 ⟨Nat.zero_le _, Nat.zero_le _⟩) (fun zv gn H locs hok45 hW => ?_)
          obtain ⟨ez, eg⟩ := hok45
          have eg : gn = zRO cI cP cZ r n T S f := eg
          rw [eg] at hW
          clear eg
          have ez : zv = zwd n T 2 (S 0 0) := ez
          rw [ez]
          clear ez
          have hwd45 := zwd_01 n T 2 (S 0 0)
          refine z_if_ne (tgt := 60) CX dX3_readName_48 (by decide) (by constructor <;> omega) (fun c_48 => ?_) (fun c_48 => ?_)
          ·
            refine lv_aload_n hX0 hB0 dX3_readName_60 rfl (lv_at hl 2 rfl) ?_
            refine lv_iconst (v := zI 1) hX0 hB0 dX3_readName_61 rfl ?_
            refine lv_iload_n hX0 hB0 dX3_readName_62 rfl (lv_at hl 1 rfl) ?_
            refine z_calli hW (va_runV (C := RX3) (As := [.int (zI 1), .int (zI (S 0 0))]) (rest := []) CX.fix (c_fail l (f := f) r n T S 1 (S 0 0) hT (by constructor <;> omega) (by constructor <;> omega)) (cwV 2 CX.fix.2.2.2.2 gX3_readName_X3_fail rfl rfl rfl (by decide +kernel) ⟨Nat.le_of_ble_eq_true rfl, Nat.le_of_ble_eq_true rfl⟩) (z_preV CX hW (r := (RX3, TX3, 13)) zRO_0 rfl) rfl rfl hl.1 rfl (lv_room (Nat.le_of_ble_eq_true rfl)) dX3_readName_63 ⟨Nat.zero_le _, Nat.zero_le _⟩) (fun zv gn H locs hok63 hW => ?_)
            obtain ⟨hz63, hg63⟩ := hok63
            obtain ⟨z63, ezv63⟩ : ∃ q, q = zv := ⟨_, rfl⟩
            rw [← ezv63] at hz63 ⊢
            clear ezv63
            rw [hg63] at hW
            clear hg63
            obtain ⟨S63c, hS63c⟩ : ∃ q : Nat → Nat → Int, q = zfl 1 (S 0 0) S := ⟨_, rfl⟩
            rw [← hS63c] at hW
            have hS63c_0 : S63c 0 0 = S 0 0 := by rw [hS63c]; first | rfl | (simp [zsr, zsd, zset]; done) | ((repeat rw [zset_ne _ _ (by omega)]); first | done | rfl | (simp [zsr, zsd, zset]; done)) | (unfold zsd; (repeat (first | rw [zset_self] | rw [zset_ne _ _ (by omega)])); first | done | rfl | (simp; done))
            have hS63c_1 : S63c 0 1 = 1 := by rw [hS63c]; first | rfl | (simp [zsr, zsd, zset]; done) | ((repeat rw [zset_ne _ _ (by omega)]); first | done | rfl | (simp [zsr, zsd, zset]; done)) | (unfold zsd; (repeat (first | rw [zset_self] | rw [zset_ne _ _ (by omega)])); first | done | rfl | (simp; done))
            have hS63c_2 : S63c 0 2 = S 0 0 := by rw [hS63c]; first | rfl | (simp [zsr, zsd, zset]; done) | ((repeat rw [zset_ne _ _ (by omega)]); first | done | rfl | (simp [zsr, zsd, zset]; done)) | (unfold zsd; (repeat (first | rw [zset_self] | rw [zset_ne _ _ (by omega)])); first | done | rfl | (simp; done))
            have hS63c_3 : S63c 0 3 = S 0 3 := by rw [hS63c]; first | rfl | (simp [zsr, zsd, zset]; done) | ((repeat rw [zset_ne _ _ (by omega)]); first | done | rfl | (simp [zsr, zsd, zset]; done)) | (unfold zsd; (repeat (first | rw [zset_self] | rw [zset_ne _ _ (by omega)])); first | done | rfl | (simp; done))
            have hS63c_4 : S63c 0 4 = S 0 4 := by rw [hS63c]; first | rfl | (simp [zsr, zsd, zset]; done) | ((repeat rw [zset_ne _ _ (by omega)]); first | done | rfl | (simp [zsr, zsd, zset]; done)) | (unfold zsd; (repeat (first | rw [zset_self] | rw [zset_ne _ _ (by omega)])); first | done | rfl | (simp; done))
            rw [← hQ]
            refine z_iret (z := z63) CX hW ?_ (zI_bool (by omega)) dX3_readName_66
            have hb9 : zrnmB n T (S 0 0) ((zwe n T (S 0 0)) - (S 0 0)) := by unfold zrnmB; omega
            have hq : zrnm n T S = (0, S63c) := by unfold zrnm zrnm0; rw [if_pos hb9, ← hS63c]
            rw [hq]
            exact ⟨hz63, rfl⟩
          ·
            refine lv_aload_n hX0 hB0 dX3_readName_51 rfl (lv_at hl 2 rfl) ?_
            refine z_ldcs CX hW 3 (by decide) rfl dX3_readName_52 ?_
            refine z_calli hW (va_runV (C := RX3) (As := [.ref (D.2 98 3)]) (rest := []) CX.fix (c_standsWord l (f := f) r n T S 3 hT (by omega) (by decide)) (cwV 1 CX.fix.2.2.2.2 gX3_readName_X3_standsWord rfl rfl rfl (by decide +kernel) ⟨Nat.le_of_ble_eq_true rfl, Nat.le_of_ble_eq_true rfl⟩) (z_preV CX hW (r := (RX3, TX3, 13)) zRO_0 rfl) rfl rfl hl.1 rfl (lv_room (Nat.le_of_ble_eq_true rfl)) dX3_readName_54 ⟨Nat.zero_le _, Nat.zero_le _⟩) (fun zv gn H locs hok54 hW => ?_)
            obtain ⟨ez, eg⟩ := hok54
            have eg : gn = zRO cI cP cZ r n T S f := eg
            rw [eg] at hW
            clear eg
            have ez : zv = zwd n T 3 (S 0 0) := ez
            rw [ez]
            clear ez
            have hwd54 := zwd_01 n T 3 (S 0 0)
            refine z_if_eq (tgt := 67) CX dX3_readName_57 (by decide) (by constructor <;> omega) (fun c_57 => ?_) (fun c_57 => ?_)
            ·
              refine lv_iconst (v := zI 0) hX0 hB0 dX3_readName_67 rfl ?_
              refine lv_istore_n (lv' := [(3, .int (zI 0)), (2, .int (zI ((zwe n T (S 0 0)) - (S 0 0)))), (1, .int (zI (S 0 0))), (0, .ref r)]) hX0 hB0 dX3_readName_68 rfl hl (by decide) rfl (fun ls hl => ?_)
              have hL69 : ∀ (fu : Nat) (Sa : Nat → Nat → Int) (i : Int), (0 ≤ i ∧ (i ≤ 6 ∨ i = 0) ∧ Sa = zset S 1 (Sa 1) ∧ Sa 1 = zfor (zltr_s n T (S 0 4) (S 0 0) ((zwe n T (S 0 0)) - (S 0 0))) 0 (S 1) (i - 0).toNat ∧ ¬ zrnmB n T (S 0 0) ((zwe n T (S 0 0)) - (S 0 0)) ∧ (∀ k, 0 ≤ Sa 1 k ∧ Sa 1 k ≤ 31)) → (6 - i).toNat < fu → ∀ (H : Heap) (locs : List Loc) (ls : Array Slot), zW D (zT cI cJ cZ cP cS cM) L (zQ L sz) st (zRO cI cP cZ r n T Sa f) st.heap H locs → lv_has ls 4 [(3, .int (zI i)), (1, .int (zI (S 0 0))), (2, .int (zI ((zwe n T (S 0 0)) - (S 0 0)))), (0, .ref r)] → W pg l en ({ frames := 5, cells := 0, slots := 0, locals := 107 } : Room) st mi ag bl mt cd H locs 0 0 Q (F0 mi 69 ls []) := by
                intro fu
                induction fu with
                | zero => intro Sa i _ hfu; exact absurd hfu (Nat.not_lt_zero _)
                | succ fu ih69 =>
                  intro Sa i hinv69 hfu69 H locs ls hW hl
                  obtain ⟨hi0, hi1, hSa, hlt, hnb, hla⟩ := hinv69
                  have hsc : ∀ j, Sa 0 j = S 0 j := fun j => by rw [hSa, zset_ne _ _ (by decide)]
                  have hs4 := hsc 4
                  have hs3 := hsc 3
                  refine lv_iload_n hX0 hB0 dX3_readName_69 rfl (lv_at hl 0 rfl) ?_
                  refine lv_bipush (v := zI 6) hX0 hB0 dX3_readName_70 (by decide) ?_
                  refine z_icmp_ge (tgt := 110) CX dX3_readName_72 (by decide) (by constructor <;> omega) (by constructor <;> omega) (fun c_72 => ?_) (fun c_72 => ?_)
                  ·
                    have hfin : Sa 1 = zltr n T (S 0 4) (S 0 0) ((zwe n T (S 0 0)) - (S 0 0)) (S 1) := by rw [hlt, show (i - 0).toNat = (6 - 0 : Int).toNat by omega]; rfl
                    refine lv_aload_n hX0 hB0 dX3_readName_110 rfl (lv_at hl 3 rfl) ?_
                    refine z_calli hW (va_runV (C := RX3) (As := []) (rest := []) CX.fix (c_isNameTaken l (f := f) r n T Sa hT (by omega) hla) (cwV 0 CX.fix.2.2.2.2 gX3_readName_X3_isNameTaken rfl rfl rfl (by decide +kernel) ⟨Nat.le_of_ble_eq_true rfl, Nat.le_of_ble_eq_true rfl⟩) (z_preV CX hW (r := (RX3, TX3, 13)) zRO_0 rfl) rfl rfl hl.1 rfl (lv_room (Nat.le_of_ble_eq_true rfl)) dX3_readName_111 ⟨Nat.zero_le _, Nat.zero_le _⟩) (fun zv gn H locs hok111 hW => ?_)
                    obtain ⟨ez, eg⟩ := hok111
                    have eg : gn = zRO cI cP cZ r n T Sa f := eg
                    rw [eg] at hW
                    clear eg
                    have ez : zv = znt (Sa 1) (Sa 0 4) := ez
                    rw [ez]
                    clear ez
                    have hnt111 := zntF_01 (Sa 1) (Sa 0 4) (Sa 0 4 - 0).toNat 0
                    rw [show zntF (Sa 1) (Sa 0 4) (Sa 0 4 - 0).toNat 0 = znt (Sa 1) (Sa 0 4) from rfl] at hnt111
                    refine z_if_eq (tgt := 124) CX dX3_readName_114 (by decide) (by constructor <;> omega) (fun c_114 => ?_) (fun c_114 => ?_)
                    ·
                      refine lv_aload_n hX0 hB0 dX3_readName_124 rfl (lv_at hl 3 rfl) ?_
                      refine lv_iload_n hX0 hB0 dX3_readName_125 rfl (lv_at hl 1 rfl) ?_
                      refine lv_iload_n hX0 hB0 dX3_readName_126 rfl (lv_at hl 2 rfl) ?_
                      refine z_iadd (z := (S 0 0) + ((zwe n T (S 0 0)) - (S 0 0))) CX dX3_readName_127 rfl ?_
                      refine z_put (Cn := RX3) (T := TX3) (N := 13) CX hW (v := .int (zI ((S 0 0) + ((zwe n T (S 0 0)) - (S 0 0))))) zRO_0 rfl (fun w h => List.mem_cons_of_mem _ (List.mem_append_left _ (List.mem_append_left _ (List.mem_append_right _ h)))) tyX3 tyX3_ok nmX3 12 (by decide) (List.mem_of_getElem? (i := 1) rfl) rfl rfl rfl rfl (Nat.le_of_ble_eq_true rfl) (g := va_up (zRO cI cP cZ r n T Sa f) r (.inr (3, [.int (zI n), .int (zI (Sa 0 1)), .int (zI (Sa 0 2)), .ref (r + 1), .ref (r + 16), .ref (r + 17), .ref (r + 18), .ref (r + 19), .ref (r + 20), .ref (r + 21), .ref (r + 23), .ref (r + 25), .int (zI ((S 0 0) + ((zwe n T (S 0 0)) - (S 0 0))))]))) rfl dX3_readName_128 (fun H locs hW => ?_)
                      refine lv_iconst (v := zI 1) hX0 hB0 dX3_readName_131 rfl ?_
                      have hW := hW
                      rw [zRO_wr] at hW
                      obtain ⟨S1, hS1⟩ : ∃ q : Nat → Nat → Int, q = zsr Sa ((S 0 0) + ((zwe n T (S 0 0)) - (S 0 0))) (Sa 0 1) (Sa 0 2) := ⟨_, rfl⟩
                      rw [← hS1] at hW
                      have hS1_0 : S1 0 0 = (S 0 0) + ((zwe n T (S 0 0)) - (S 0 0)) := by rw [hS1]; first | rfl | (simp [zsr, zsd, zset]; done) | ((repeat rw [zset_ne _ _ (by omega)]); first | done | rfl | (simp [zsr, zsd, zset]; done)) | (unfold zsd; (repeat (first | rw [zset_self] | rw [zset_ne _ _ (by omega)])); first | done | rfl | (simp; done))
                      have hS1_1 : S1 0 1 = Sa 0 1 := by rw [hS1]; first | rfl | (simp [zsr, zsd, zset]; done) | ((repeat rw [zset_ne _ _ (by omega)]); first | done | rfl | (simp [zsr, zsd, zset]; done)) | (unfold zsd; (repeat (first | rw [zset_self] | rw [zset_ne _ _ (by omega)])); first | done | rfl | (simp; done))
                      have hS1_2 : S1 0 2 = Sa 0 2 := by rw [hS1]; first | rfl | (simp [zsr, zsd, zset]; done) | ((repeat rw [zset_ne _ _ (by omega)]); first | done | rfl | (simp [zsr, zsd, zset]; done)) | (unfold zsd; (repeat (first | rw [zset_self] | rw [zset_ne _ _ (by omega)])); first | done | rfl | (simp; done))
                      have hS1_3 : S1 0 3 = Sa 0 3 := by rw [hS1]; first | rfl | (simp [zsr, zsd, zset]; done) | ((repeat rw [zset_ne _ _ (by omega)]); first | done | rfl | (simp [zsr, zsd, zset]; done)) | (unfold zsd; (repeat (first | rw [zset_self] | rw [zset_ne _ _ (by omega)])); first | done | rfl | (simp; done))
                      have hS1_4 : S1 0 4 = Sa 0 4 := by rw [hS1]; first | rfl | (simp [zsr, zsd, zset]; done) | ((repeat rw [zset_ne _ _ (by omega)]); first | done | rfl | (simp [zsr, zsd, zset]; done)) | (unfold zsd; (repeat (first | rw [zset_self] | rw [zset_ne _ _ (by omega)])); first | done | rfl | (simp; done))
                      skip
                      rw [← hQ]
                      refine z_iret (z := 1) CX hW ?_ rfl dX3_readName_132
                      have hq : zrnm n T S = (1, S1) := by unfold zrnm zrnm0; rw [if_neg hnb]; unfold zrnm1; rw [← hfin, if_pos (by rw [← hs4]; exact c_114), ← hSa, hS1, hsc 1, hsc 2]
                      rw [hq]
                      exact ⟨rfl, rfl⟩
                    ·
                      refine lv_aload_n hX0 hB0 dX3_readName_117 rfl (lv_at hl 3 rfl) ?_
                      refine lv_iconst (v := zI 3) hX0 hB0 dX3_readName_118 rfl ?_
                      refine lv_iload_n hX0 hB0 dX3_readName_119 rfl (lv_at hl 1 rfl) ?_
                      refine z_calli hW (va_runV (C := RX3) (As := [.int (zI 3), .int (zI (S 0 0))]) (rest := []) CX.fix (c_fail l (f := f) r n T Sa 3 (S 0 0) hT (by constructor <;> omega) (by constructor <;> omega)) (cwV 2 CX.fix.2.2.2.2 gX3_readName_X3_fail rfl rfl rfl (by decide +kernel) ⟨Nat.le_of_ble_eq_true rfl, Nat.le_of_ble_eq_true rfl⟩) (z_preV CX hW (r := (RX3, TX3, 13)) zRO_0 rfl) rfl rfl hl.1 rfl (lv_room (Nat.le_of_ble_eq_true rfl)) dX3_readName_120 ⟨Nat.zero_le _, Nat.zero_le _⟩) (fun zv gn H locs hok120 hW => ?_)
                      obtain ⟨hz120, hg120⟩ := hok120
                      obtain ⟨z120, ezv120⟩ : ∃ q, q = zv := ⟨_, rfl⟩
                      rw [← ezv120] at hz120 ⊢
                      clear ezv120
                      rw [hg120] at hW
                      clear hg120
                      obtain ⟨S120c, hS120c⟩ : ∃ q : Nat → Nat → Int, q = zfl 3 (S 0 0) Sa := ⟨_, rfl⟩
                      rw [← hS120c] at hW
                      have hS120c_0 : S120c 0 0 = Sa 0 0 := by rw [hS120c]; first | rfl | (simp [zsr, zsd, zset]; done) | ((repeat rw [zset_ne _ _ (by omega)]); first | done | rfl | (simp [zsr, zsd, zset]; done)) | (unfold zsd; (repeat (first | rw [zset_self] | rw [zset_ne _ _ (by omega)])); first | done | rfl | (simp; done))
                      have hS120c_1 : S120c 0 1 = 3 := by rw [hS120c]; first | rfl | (simp [zsr, zsd, zset]; done) | ((repeat rw [zset_ne _ _ (by omega)]); first | done | rfl | (simp [zsr, zsd, zset]; done)) | (unfold zsd; (repeat (first | rw [zset_self] | rw [zset_ne _ _ (by omega)])); first | done | rfl | (simp; done))
                      have hS120c_2 : S120c 0 2 = S 0 0 := by rw [hS120c]; first | rfl | (simp [zsr, zsd, zset]; done) | ((repeat rw [zset_ne _ _ (by omega)]); first | done | rfl | (simp [zsr, zsd, zset]; done)) | (unfold zsd; (repeat (first | rw [zset_self] | rw [zset_ne _ _ (by omega)])); first | done | rfl | (simp; done))
                      have hS120c_3 : S120c 0 3 = Sa 0 3 := by rw [hS120c]; first | rfl | (simp [zsr, zsd, zset]; done) | ((repeat rw [zset_ne _ _ (by omega)]); first | done | rfl | (simp [zsr, zsd, zset]; done)) | (unfold zsd; (repeat (first | rw [zset_self] | rw [zset_ne _ _ (by omega)])); first | done | rfl | (simp; done))
                      have hS120c_4 : S120c 0 4 = Sa 0 4 := by rw [hS120c]; first | rfl | (simp [zsr, zsd, zset]; done) | ((repeat rw [zset_ne _ _ (by omega)]); first | done | rfl | (simp [zsr, zsd, zset]; done)) | (unfold zsd; (repeat (first | rw [zset_self] | rw [zset_ne _ _ (by omega)])); first | done | rfl | (simp; done))
                      rw [← hQ]
                      refine z_iret (z := z120) CX hW ?_ (zI_bool (by omega)) dX3_readName_123
                      have hq : zrnm n T S = (0, S120c) := by unfold zrnm zrnm0; rw [if_neg hnb]; unfold zrnm1; rw [← hfin, if_neg (by rw [← hs4]; exact c_114), ← hSa, ← hS120c]
                      rw [hq]
                      exact ⟨hz120, rfl⟩
                  ·
                    refine lv_aload_n hX0 hB0 dX3_readName_75 rfl (lv_at hl 3 rfl) ?_
                    refine z_get (Cn := RX3) (T := TX3) (N := 13) CX hW (v := .ref (r + 1)) zRO_0 rfl (fun w h => List.mem_cons_of_mem _ (List.mem_append_left _ (List.mem_append_left _ (List.mem_append_right _ h)))) 3 (by decide) (List.mem_of_getElem? (i := 2) rfl) rfl rfl dX3_readName_76 ?_
                    refine lv_iload_n hX0 hB0 dX3_readName_79 rfl (lv_at hl 0 rfl) ?_
                    refine lv_iload_n hX0 hB0 dX3_readName_80 rfl (lv_at hl 0 rfl) ?_
                    refine lv_iload_n hX0 hB0 dX3_readName_81 rfl (lv_at hl 2 rfl) ?_
                    refine z_icmp_ge (tgt := 100) CX dX3_readName_82 (by decide) (by constructor <;> omega) (by constructor <;> omega) (fun c_82 => ?_) (fun c_82 => ?_)
                    ·
                      refine lv_iconst (v := zI 0) hX0 hB0 dX3_readName_100 rfl ?_
                      refine z_callv hW (va_runV (C := RX7) (As := [.int (zI i), .int (zI 0)]) (rest := []) CX.fix (c_setLetter l (f := zRO cI cP cZ r n T Sa f) (r + 1) (Sa 0 3) (Sa 0 4) (fun k => Sa (7 + k)) (Sa 1) i 0 zRO_shelf (by omega) (by constructor <;> omega)) (cwV 2 CX.fix.2.2.2.2 gX3_readName_X7_setLetter rfl rfl rfl (by decide +kernel) ⟨Nat.le_of_ble_eq_true rfl, Nat.le_of_ble_eq_true rfl⟩) (z_preV CX hW (r := (RX7, TX7, 4)) zRO_1 rfl) rfl rfl hl.1 rfl (lv_room (Nat.le_of_ble_eq_true rfl)) dX3_readName_101 ⟨Nat.zero_le _, Nat.zero_le _⟩) (fun gn H locs hok101 hW => ?_)
                      have eg : gn = va_up (zRO cI cP cZ r n T Sa f) (r + 3) (zA cI 36 (zsetL (Sa 0 4) (Sa 1) i 0)) := hok101
                      rw [eg] at hW
                      clear eg
                      refine lv_iinc (v := zI (i + 1)) (lv' := [(3, .int (zI (i + 1))), (1, .int (zI (S 0 0))), (2, .int (zI ((zwe n T (S 0 0)) - (S 0 0)))), (0, .ref r)]) hX0 hB0 dX3_readName_104 hl (k := 0) rfl (zI_add _ _) (by decide) rfl (fun ls hl => ?_)
                      refine lv_goto (tgt := 69) hX0 hB0 dX3_readName_107 (by decide) ?_
                      have hW := hW
                      rw [zRO_w3] at hW
                      obtain ⟨S2, hS2⟩ : ∃ q : Nat → Nat → Int, q = zset Sa 1 (zsetL (Sa 0 4) (Sa 1) i 0) := ⟨_, rfl⟩
                      rw [← hS2] at hW
                      have hS2_0 : S2 0 0 = Sa 0 0 := by rw [hS2]; first | rfl | (simp [zsr, zsd, zset]; done) | ((repeat rw [zset_ne _ _ (by omega)]); first | done | rfl | (simp [zsr, zsd, zset]; done)) | (unfold zsd; (repeat (first | rw [zset_self] | rw [zset_ne _ _ (by omega)])); first | done | rfl | (simp; done))
                      have hS2_1 : S2 0 1 = Sa 0 1 := by rw [hS2]; first | rfl | (simp [zsr, zsd, zset]; done) | ((repeat rw [zset_ne _ _ (by omega)]); first | done | rfl | (simp [zsr, zsd, zset]; done)) | (unfold zsd; (repeat (first | rw [zset_self] | rw [zset_ne _ _ (by omega)])); first | done | rfl | (simp; done))
                      have hS2_2 : S2 0 2 = Sa 0 2 := by rw [hS2]; first | rfl | (simp [zsr, zsd, zset]; done) | ((repeat rw [zset_ne _ _ (by omega)]); first | done | rfl | (simp [zsr, zsd, zset]; done)) | (unfold zsd; (repeat (first | rw [zset_self] | rw [zset_ne _ _ (by omega)])); first | done | rfl | (simp; done))
                      have hS2_3 : S2 0 3 = Sa 0 3 := by rw [hS2]; first | rfl | (simp [zsr, zsd, zset]; done) | ((repeat rw [zset_ne _ _ (by omega)]); first | done | rfl | (simp [zsr, zsd, zset]; done)) | (unfold zsd; (repeat (first | rw [zset_self] | rw [zset_ne _ _ (by omega)])); first | done | rfl | (simp; done))
                      have hS2_4 : S2 0 4 = Sa 0 4 := by rw [hS2]; first | rfl | (simp [zsr, zsd, zset]; done) | ((repeat rw [zset_ne _ _ (by omega)]); first | done | rfl | (simp [zsr, zsd, zset]; done)) | (unfold zsd; (repeat (first | rw [zset_self] | rw [zset_ne _ _ (by omega)])); first | done | rfl | (simp; done))
                      skip
                      exact ih69 S2 (i + 1) ⟨by omega, by omega, by rw [hS2, zset_self]; exact zset_step hSa, by rw [hS2, zset_self, zfor_s _ _ _ hi0, ← hlt, hs4]; unfold zltr_s; first | rw [if_pos c_82] | rw [if_neg (by omega)], hnb, by rw [hS2, zset_self]; exact zsetL_rng hla (by first | omega | (have hq := zwe_low (n := n) (T := T) (a := S 0 0 + i) (n - S 0 0).toNat (S 0 0) (by omega) (by omega) (by show S 0 0 + i < zwe n T (S 0 0); omega); omega))⟩ (by omega) H locs ls hW (lv_sub hl [0, 1, 2, 3] rfl)
                    ·
                      refine lv_aload_n hX0 hB0 dX3_readName_85 rfl (lv_at hl 3 rfl) ?_
                      refine lv_iload_n hX0 hB0 dX3_readName_86 rfl (lv_at hl 1 rfl) ?_
                      refine lv_iload_n hX0 hB0 dX3_readName_87 rfl (lv_at hl 0 rfl) ?_
                      refine z_iadd (z := (S 0 0) + i) CX dX3_readName_88 rfl ?_
                      refine z_calli hW (va_runV (C := RX3) (As := [.int (zI ((S 0 0) + i))]) (rest := [.int (zI i), .ref (r + 1)]) CX.fix (c_byteAt l (f := f) r n T Sa ((S 0 0) + i) hT (by constructor <;> omega)) (cwV 1 CX.fix.2.2.2.2 gX3_readName_X3_byteAt rfl rfl rfl (by decide +kernel) ⟨Nat.le_of_ble_eq_true rfl, Nat.le_of_ble_eq_true rfl⟩) (z_preV CX hW (r := (RX3, TX3, 13)) zRO_0 rfl) rfl rfl hl.1 rfl (lv_room (Nat.le_of_ble_eq_true rfl)) dX3_readName_89 ⟨Nat.zero_le _, Nat.zero_le _⟩) (fun zv gn H locs hok89 hW => ?_)
                      obtain ⟨ez, eg⟩ := hok89
                      have eg : gn = zRO cI cP cZ r n T Sa f := eg
                      rw [eg] at hW
                      clear eg
                      have ez : zv = zby n T ((S 0 0) + i) := ez
                      rw [ez]
                      clear ez
                      have hby89 := zby_rng hT ((S 0 0) + i)
                      refine lv_bipush (v := zI 97) hX0 hB0 dX3_readName_92 (by decide) ?_
                      refine z_isub (z := (zby n T ((S 0 0) + i)) - 97) CX dX3_readName_94 rfl ?_
                      refine lv_iconst (v := zI 1) hX0 hB0 dX3_readName_95 rfl ?_
                      refine z_iadd (z := ((zby n T ((S 0 0) + i)) - 97) + 1) CX dX3_readName_96 rfl ?_
                      refine lv_goto (tgt := 101) hX0 hB0 dX3_readName_97 (by decide) ?_
                      refine z_callv hW (va_runV (C := RX7) (As := [.int (zI i), .int (zI (((zby n T ((S 0 0) + i)) - 97) + 1))]) (rest := []) CX.fix (c_setLetter l (f := zRO cI cP cZ r n T Sa f) (r + 1) (Sa 0 3) (Sa 0 4) (fun k => Sa (7 + k)) (Sa 1) i (((zby n T ((S 0 0) + i)) - 97) + 1) zRO_shelf (by omega) (by constructor <;> omega)) (cwV 2 CX.fix.2.2.2.2 gX3_readName_X7_setLetter rfl rfl rfl (by decide +kernel) ⟨Nat.le_of_ble_eq_true rfl, Nat.le_of_ble_eq_true rfl⟩) (z_preV CX hW (r := (RX7, TX7, 4)) zRO_1 rfl) rfl rfl hl.1 rfl (lv_room (Nat.le_of_ble_eq_true rfl)) dX3_readName_101 ⟨Nat.zero_le _, Nat.zero_le _⟩) (fun gn H locs hok101 hW => ?_)
                      have eg : gn = va_up (zRO cI cP cZ r n T Sa f) (r + 3) (zA cI 36 (zsetL (Sa 0 4) (Sa 1) i (((zby n T ((S 0 0) + i)) - 97) + 1))) := hok101
                      rw [eg] at hW
                      clear eg
                      refine lv_iinc (v := zI (i + 1)) (lv' := [(3, .int (zI (i + 1))), (1, .int (zI (S 0 0))), (2, .int (zI ((zwe n T (S 0 0)) - (S 0 0)))), (0, .ref r)]) hX0 hB0 dX3_readName_104 hl (k := 0) rfl (zI_add _ _) (by decide) rfl (fun ls hl => ?_)
                      refine lv_goto (tgt := 69) hX0 hB0 dX3_readName_107 (by decide) ?_
                      have hW := hW
                      rw [zRO_w3] at hW
                      obtain ⟨S3, hS3⟩ : ∃ q : Nat → Nat → Int, q = zset Sa 1 (zsetL (Sa 0 4) (Sa 1) i (((zby n T ((S 0 0) + i)) - 97) + 1)) := ⟨_, rfl⟩
                      rw [← hS3] at hW
                      have hS3_0 : S3 0 0 = Sa 0 0 := by rw [hS3]; first | rfl | (simp [zsr, zsd, zset]; done) | ((repeat rw [zset_ne _ _ (by omega)]); first | done | rfl | (simp [zsr, zsd, zset]; done)) | (unfold zsd; (repeat (first | rw [zset_self] | rw [zset_ne _ _ (by omega)])); first | done | rfl | (simp; done))
                      have hS3_1 : S3 0 1 = Sa 0 1 := by rw [hS3]; first | rfl | (simp [zsr, zsd, zset]; done) | ((repeat rw [zset_ne _ _ (by omega)]); first | done | rfl | (simp [zsr, zsd, zset]; done)) | (unfold zsd; (repeat (first | rw [zset_self] | rw [zset_ne _ _ (by omega)])); first | done | rfl | (simp; done))
                      have hS3_2 : S3 0 2 = Sa 0 2 := by rw [hS3]; first | rfl | (simp [zsr, zsd, zset]; done) | ((repeat rw [zset_ne _ _ (by omega)]); first | done | rfl | (simp [zsr, zsd, zset]; done)) | (unfold zsd; (repeat (first | rw [zset_self] | rw [zset_ne _ _ (by omega)])); first | done | rfl | (simp; done))
                      have hS3_3 : S3 0 3 = Sa 0 3 := by rw [hS3]; first | rfl | (simp [zsr, zsd, zset]; done) | ((repeat rw [zset_ne _ _ (by omega)]); first | done | rfl | (simp [zsr, zsd, zset]; done)) | (unfold zsd; (repeat (first | rw [zset_self] | rw [zset_ne _ _ (by omega)])); first | done | rfl | (simp; done))
                      have hS3_4 : S3 0 4 = Sa 0 4 := by rw [hS3]; first | rfl | (simp [zsr, zsd, zset]; done) | ((repeat rw [zset_ne _ _ (by omega)]); first | done | rfl | (simp [zsr, zsd, zset]; done)) | (unfold zsd; (repeat (first | rw [zset_self] | rw [zset_ne _ _ (by omega)])); first | done | rfl | (simp; done))
                      skip
                      exact ih69 S3 (i + 1) ⟨by omega, by omega, by rw [hS3, zset_self]; exact zset_step hSa, by rw [hS3, zset_self, zfor_s _ _ _ hi0, ← hlt, hs4]; unfold zltr_s; first | rw [if_pos c_82] | rw [if_neg (by omega)], hnb, by rw [hS3, zset_self]; exact zsetL_rng hla (by first | omega | (have hq := zwe_low (n := n) (T := T) (a := S 0 0 + i) (n - S 0 0).toNat (S 0 0) (by omega) (by omega) (by show S 0 0 + i < zwe n T (S 0 0); omega); omega))⟩ (by omega) H locs ls hW (lv_sub hl [0, 1, 2, 3] rfl)
              exact hL69 _ S 0 ⟨by omega, by omega, (zset_id S 1).symm, rfl, by unfold zrnmB; omega, hc.2.2.2.2.2.1⟩ (Nat.lt_succ_self _) H locs ls hW (lv_sub hl [0, 2, 1, 3] rfl)
            ·
              refine lv_aload_n hX0 hB0 dX3_readName_60 rfl (lv_at hl 2 rfl) ?_
              refine lv_iconst (v := zI 1) hX0 hB0 dX3_readName_61 rfl ?_
              refine lv_iload_n hX0 hB0 dX3_readName_62 rfl (lv_at hl 1 rfl) ?_
              refine z_calli hW (va_runV (C := RX3) (As := [.int (zI 1), .int (zI (S 0 0))]) (rest := []) CX.fix (c_fail l (f := f) r n T S 1 (S 0 0) hT (by constructor <;> omega) (by constructor <;> omega)) (cwV 2 CX.fix.2.2.2.2 gX3_readName_X3_fail rfl rfl rfl (by decide +kernel) ⟨Nat.le_of_ble_eq_true rfl, Nat.le_of_ble_eq_true rfl⟩) (z_preV CX hW (r := (RX3, TX3, 13)) zRO_0 rfl) rfl rfl hl.1 rfl (lv_room (Nat.le_of_ble_eq_true rfl)) dX3_readName_63 ⟨Nat.zero_le _, Nat.zero_le _⟩) (fun zv gn H locs hok63 hW => ?_)
              obtain ⟨hz63, hg63⟩ := hok63
              obtain ⟨z63, ezv63⟩ : ∃ q, q = zv := ⟨_, rfl⟩
              rw [← ezv63] at hz63 ⊢
              clear ezv63
              rw [hg63] at hW
              clear hg63
              obtain ⟨S63c, hS63c⟩ : ∃ q : Nat → Nat → Int, q = zfl 1 (S 0 0) S := ⟨_, rfl⟩
              rw [← hS63c] at hW
              have hS63c_0 : S63c 0 0 = S 0 0 := by rw [hS63c]; first | rfl | (simp [zsr, zsd, zset]; done) | ((repeat rw [zset_ne _ _ (by omega)]); first | done | rfl | (simp [zsr, zsd, zset]; done)) | (unfold zsd; (repeat (first | rw [zset_self] | rw [zset_ne _ _ (by omega)])); first | done | rfl | (simp; done))
              have hS63c_1 : S63c 0 1 = 1 := by rw [hS63c]; first | rfl | (simp [zsr, zsd, zset]; done) | ((repeat rw [zset_ne _ _ (by omega)]); first | done | rfl | (simp [zsr, zsd, zset]; done)) | (unfold zsd; (repeat (first | rw [zset_self] | rw [zset_ne _ _ (by omega)])); first | done | rfl | (simp; done))
              have hS63c_2 : S63c 0 2 = S 0 0 := by rw [hS63c]; first | rfl | (simp [zsr, zsd, zset]; done) | ((repeat rw [zset_ne _ _ (by omega)]); first | done | rfl | (simp [zsr, zsd, zset]; done)) | (unfold zsd; (repeat (first | rw [zset_self] | rw [zset_ne _ _ (by omega)])); first | done | rfl | (simp; done))
              have hS63c_3 : S63c 0 3 = S 0 3 := by rw [hS63c]; first | rfl | (simp [zsr, zsd, zset]; done) | ((repeat rw [zset_ne _ _ (by omega)]); first | done | rfl | (simp [zsr, zsd, zset]; done)) | (unfold zsd; (repeat (first | rw [zset_self] | rw [zset_ne _ _ (by omega)])); first | done | rfl | (simp; done))
              have hS63c_4 : S63c 0 4 = S 0 4 := by rw [hS63c]; first | rfl | (simp [zsr, zsd, zset]; done) | ((repeat rw [zset_ne _ _ (by omega)]); first | done | rfl | (simp [zsr, zsd, zset]; done)) | (unfold zsd; (repeat (first | rw [zset_self] | rw [zset_ne _ _ (by omega)])); first | done | rfl | (simp; done))
              rw [← hQ]
              refine z_iret (z := z63) CX hW ?_ (zI_bool (by omega)) dX3_readName_66
              have hb9 : zrnmB n T (S 0 0) ((zwe n T (S 0 0)) - (S 0 0)) := by unfold zrnmB; omega
              have hq : zrnm n T S = (0, S63c) := by unfold zrnm zrnm0; rw [if_pos hb9, ← hS63c]
              rw [hq]
              exact ⟨hz63, rfl⟩
end ZTx6
