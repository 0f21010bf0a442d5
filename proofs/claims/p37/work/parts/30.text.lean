section ZTx7
theorem zwe_wd {n : Int} {T : Nat → Int} {S : Nat → Nat → Int} (h : zcI n S) : S 0 0 ≤ zwe n T (S 0 0) ∧ zwe n T (S 0 0) ≤ n := zwe_rng h.1
theorem zrnm_01 (n : Int) (T : Nat → Int) (S : Nat → Nat → Int) : (zrnm n T S).1 = 0 ∨ (zrnm n T S).1 = 1 := by
  unfold zrnm zrnm0
  split
  · exact Or.inl rfl
  · unfold zrnm1
    split
    · exact Or.inr rfl
    · exact Or.inl rfl
theorem zltr_rng {n : Int} {T : Nat → Int} {cn a len : Int} {l : Nat → Int} (ha : 0 ≤ a ∧ a ≤ n) (hlen : len = zwe n T a - a) (h : ∀ k, 0 ≤ l k ∧ l k ≤ 31) : ∀ k, 0 ≤ zltr n T cn a len l k ∧ zltr n T cn a len l k ≤ 31 := by
  have key : ∀ m : Nat, ∀ k, 0 ≤ zfor (zltr_s n T cn a len) 0 l m k ∧ zfor (zltr_s n T cn a len) 0 l m k ≤ 31 := by
    intro m
    induction m with
    | zero => exact h
    | succ m ih =>
      show ∀ k, 0 ≤ zltr_s n T cn a len (0 + m) (zfor (zltr_s n T cn a len) 0 l m) k ∧ zltr_s n T cn a len (0 + m) (zfor (zltr_s n T cn a len) 0 l m) k ≤ 31
      unfold zltr_s
      refine zsetL_rng ih ?_
      split
      · have hq := zwe_low (n := n) (T := T) (a := a + (0 + (m : Int))) (n - a).toNat a (by omega) (by omega) (by show a + (0 + (m : Int)) < zwe n T a; omega)
        omega
      · omega
  exact key _
theorem zcI.nm {n : Int} {T : Nat → Int} {S : Nat → Nat → Int} (h : zcI n S) : zcI n (zrnm n T S).2 := by
  have hw := zwe_rng (n := n) (T := T) h.1
  have h1 : zcI n (zset S 1 (zltr n T (S 0 4) (S 0 0) (zwe n T (S 0 0) - S 0 0) (S 1))) := by
    obtain ⟨a, b, c, d, e, f, g⟩ := h
    exact ⟨by rw [zset_ne _ _ (by decide)]; exact a, by rw [zset_ne _ _ (by decide)]; exact b, by rw [zset_ne _ _ (by decide)]; exact c, fun k => by rw [zset_ne _ _ (by decide)]; exact d k, fun k => by rw [zset_ne _ _ (by decide)]; exact e k, fun k => by rw [zset_self]; exact zltr_rng a rfl f k, fun k hk => by rw [zset_ne _ _ (by decide)] at hk; rw [zset_ne _ _ (by decide), zset_ne _ _ (by omega)]; exact g k hk⟩
  unfold zrnm zrnm0
  split
  · exact h.fl
  · unfold zrnm1
    split
    · exact h1.pl (by have := h.1; omega)
    · exact h1.fl
/-- a CURVE -/
noncomputable def zrc3 (nm : Int) (S : Nat → Nat → Int) : Int × (Nat → Nat → Int) := if ztop (S (20 + 0)) < 1 then (0, zfl 5 nm S) else (1, zsd (zset S (7 + (S 0 4).toNat) (S (20 + 0))) (S 0 3) (S 0 4 + 1))
noncomputable def zrc2 (n : Int) (T : Nat → Int) (nm : Int) (S : Nat → Nat → Int) : Int × (Nat → Nat → Int) := if (zrs n T S).1 = 0 then (0, (zrs n T S).2) else if (zxp n T 59 (zrs n T S).2).1 = 0 then (0, (zxp n T 59 (zrs n T S).2).2) else zrc3 nm (zxp n T 59 (zrs n T S).2).2
noncomputable def zrc1 (n : Int) (T : Nat → Int) (S : Nat → Nat → Int) : Int × (Nat → Nat → Int) := if (zrnm n T S).1 = 0 then (0, (zrnm n T S).2) else if (zxp n T 61 (zrnm n T S).2).1 = 0 then (0, (zxp n T 61 (zrnm n T S).2).2) else zrc2 n T (S 0 0) (zxp n T 61 (zrnm n T S).2).2
noncomputable def zrc (n : Int) (T : Nat → Int) (S : Nat → Nat → Int) : Int × (Nat → Nat → Int) := if zwd n T 1 (S 0 0) = 0 then (0, zfl 1 (S 0 0) S) else if 6 ≤ S 0 4 then (0, zfl 4 (S 0 0) S) else zrc1 n T (zskS n T (zsr S (S 0 0 + 5) (S 0 1) (S 0 2)))
theorem zrc_01 (n : Int) (T : Nat → Int) (S : Nat → Nat → Int) : (zrc n T S).1 = 0 ∨ (zrc n T S).1 = 1 := by
  unfold zrc
  split
  · exact Or.inl rfl
  · split
    · exact Or.inl rfl
    · unfold zrc1
      split
      · exact Or.inl rfl
      · split
        · exact Or.inl rfl
        · unfold zrc2
          split
          · exact Or.inl rfl
          · split
            · exact Or.inl rfl
            · unfold zrc3
              split
              · exact Or.inl rfl
              · exact Or.inr rfl
theorem zcI.rc {n : Int} {T : Nat → Int} {S : Nat → Nat → Int} (h : zcI n S) (hn : 0 ≤ n ∧ n ≤ 1000) : zcI n (zrc n T S).2 := by
  unfold zrc
  split
  · exact h.fl
  · rename_i hw
    split
    · exact h.fl
    · have hp := zwd_pl (by decide) h.1 hw
      have h0 := h.1
      have e5 : zlen 1 = 5 := rfl
      have h4 : zskS n T (zsr S (S 0 0 + 5) (S 0 1) (S 0 2)) 0 4 = S 0 4 := rfl
      have h1 : zcI n (zskS n T (zsr S (S 0 0 + 5) (S 0 1) (S 0 2))) := zcI.sk (h.pl (by omega))
      unfold zrc1
      have h2 := h1.nm (T := T)
      split
      · exact h2
      · have h3 := h2.xp (T := T) (sg := 61) (by decide)
        split
        · exact h3
        · unfold zrc2
          obtain ⟨h5, hc5⟩ := h3.rs (T := T) hn
          split
          · exact h5
          · have h6 := h5.xp (T := T) (sg := 59) (by decide)
            split
            · exact h6
            · unfold zrc3
              split
              · exact h6.fl
              · rename_i h4n _ _ _ _ _
                have e4 : (zxp n T 59 (zrs n T (zxp n T 61 (zrnm n T (zskS n T (zsr S (S 0 0 + 5) (S 0 1) (S 0 2)))).2).2).2).2 0 4 ≤ 5 := by
                  have q1 := zxp_num n T 59 (zrs n T (zxp n T 61 (zrnm n T (zskS n T (zsr S (S 0 0 + 5) (S 0 1) (S 0 2)))).2).2).2 (Or.inr rfl)
                  have q2 := (zrs_ok (T := T) hn h3.1 h3.2.1.1 h3.2.2.2.1 h3.2.2.2.2.1).2.2.1
                  have q3 := zxp_num n T 61 (zrnm n T (zskS n T (zsr S (S 0 0 + 5) (S 0 1) (S 0 2)))).2 (Or.inr rfl)
                  have q4 : (zrnm n T (zskS n T (zsr S (S 0 0 + 5) (S 0 1) (S 0 2)))).2 0 4 = S 0 4 := by
                    unfold zrnm zrnm0
                    split
                    · rfl
                    · unfold zrnm1
                      split
                      · rfl
                      · rfl
                  rw [q1, q2, q3, q4]
                  omega
                have hcc : zcan ((zxp n T 59 (zrs n T (zxp n T 61 (zrnm n T (zskS n T (zsr S (S 0 0 + 5) (S 0 1) (S 0 2)))).2).2).2).2 0 3) ((zxp n T 59 (zrs n T (zxp n T 61 (zrnm n T (zskS n T (zsr S (S 0 0 + 5) (S 0 1) (S 0 2)))).2).2).2).2 (20 + 0)) := by
                  rw [zxp_num _ _ _ _ (Or.inl rfl), zxp_k _ _ _ _ (by decide)]
                  exact hc5
                generalize (zxp n T 59 (zrs n T (zxp n T 61 (zrnm n T (zskS n T (zsr S (S 0 0 + 5) (S 0 1) (S 0 2)))).2).2).2).2 = A at h6 e4 hcc ⊢
                obtain ⟨a, b, c, d, e, f, g⟩ := h6
                have hz : zset A (7 + (A 0 4).toNat) (A (20 + 0)) 0 = A 0 := zset_ne _ _ (by omega)
                refine ⟨by show 0 ≤ zset A (7 + (A 0 4).toNat) (A (20 + 0)) 0 0 ∧ zset A (7 + (A 0 4).toNat) (A (20 + 0)) 0 0 ≤ n; rw [hz]; exact a, b, ?_, fun k => ?_, fun k => ?_, fun k => ?_, fun k hk => ?_⟩
                · show 0 ≤ A 0 4 + 1 ∧ A 0 4 + 1 ≤ 6
                  omega
                · show 0 ≤ zset A _ _ 2 k ∧ zset A _ _ 2 k ≤ 1
                  rw [zset_ne _ _ (by omega)]
                  exact d k
                · show 0 ≤ zset A _ _ 3 k ∧ zset A _ _ 3 k ≤ 1000
                  rw [zset_ne _ _ (by omega)]
                  exact e k
                · show 0 ≤ zset A _ _ 1 k ∧ zset A _ _ 1 k ≤ 31
                  rw [zset_ne _ _ (by omega)]
                  exact f k
                · have hk2 : (k : Int) < A 0 4 + 1 := hk
                  show zcan (A 0 3) (zsd _ _ _ (7 + k))
                  rw [zsd_ne (by omega)]
                  by_cases e9 : k = (A 0 4).toNat
                  · rw [e9, zset_self]
                    exact hcc
                  · rw [zset_ne _ _ (by omega)]
                    exact g k (by omega)
/-- the FIELD -/
def zprF (v : Int) : Nat → Int → Int
  | 0, _ => 0
  | m + 1, k => if zPR k.toNat = v then 1 else zprF v m (k + 1)
def zprm (v : Int) : Int := zprF v (11 - 0 : Int).toNat 0
theorem zprF_s (v : Int) {k : Int} (h : k < 11) : zprF v (11 - k).toNat k = if zPR k.toNat = v then 1 else zprF v (11 - (k + 1)).toNat (k + 1) := by
  rw [show (11 - k).toNat = (11 - (k + 1)).toNat + 1 by omega]
  rfl
theorem zPR_rng (k : Nat) : 0 ≤ zPR k ∧ zPR k ≤ 31 := by
  by_cases h : k < 11
  · have key : ∀ j : Nat, j < 11 → 0 ≤ zPR j ∧ zPR j ≤ 31 := by decide +kernel
    exact key k h
  · have e : zPR k = 0 := by
      unfold zPR
      rw [List.getD_eq_getElem?_getD, List.getElem?_eq_none (by show 11 ≤ k; omega)]
      rfl
    omega
theorem zPR_2 {k : Nat} (h : k < 11) : 2 ≤ zPR k := by
  have key : ∀ j : Nat, j < 11 → 2 ≤ zPR j := by decide +kernel
  exact key k h
theorem zprm_rng {v : Int} (h : ¬ zprm v = 0) : 2 ≤ v ∧ v ≤ 31 := by
  have key : ∀ (m : Nat) (k : Int), 0 ≤ k → k + m ≤ 11 → ¬ zprF v m k = 0 → 2 ≤ v ∧ v ≤ 31 := by
    intro m
    induction m with
    | zero => intro k _ _ h; exact absurd rfl h
    | succ m ih =>
      intro k h0 h1 h2
      simp only [zprF] at h2
      split at h2
      · rename_i e
        have := zPR_rng k.toNat
        have := zPR_2 (k := k.toNat) (by omega)
        omega
      · exact ih (k + 1) (by omega) (by omega) h2
  exact key _ 0 (by omega) (by decide) h
def zrfd2 (n : Int) (T : Nat → Int) (a : Int) (q : Int × (Nat → Nat → Int)) : Int × (Nat → Nat → Int) := if zprm q.1 = 0 then (0, zfl 2 a q.2) else zxp n T 59 (zsd q.2 q.1 (q.2 0 4))
def zrfd1 (n : Int) (T : Nat → Int) (S : Nat → Nat → Int) : Int × (Nat → Nat → Int) := if zdig (zby n T (S 0 0)) = 0 then (0, zfl 1 (S 0 0) S) else zrfd2 n T (S 0 0) (zrn n T S)
def zrfd0 (n : Int) (T : Nat → Int) (S : Nat → Nat → Int) : Int × (Nat → Nat → Int) := if zdig (zby n T (S 0 0)) = 0 then zrfd1 n T (zskS n T S) else (0, zfl 1 (S 0 0) S)
def zrfd (n : Int) (T : Nat → Int) (S : Nat → Nat → Int) : Int × (Nat → Nat → Int) := zrfd0 n T (zsr S (S 0 0 + 5) (S 0 1) (S 0 2))
theorem zrfd_01 (n : Int) (T : Nat → Int) (S : Nat → Nat → Int) : (zrfd n T S).1 = 0 ∨ (zrfd n T S).1 = 1 := by
  unfold zrfd zrfd0
  split
  · unfold zrfd1
    split
    · exact Or.inl rfl
    · unfold zrfd2
      split
      · exact Or.inl rfl
      · exact zxp_01 _ _ _ _
  · exact Or.inl rfl
theorem zcI.fd {n : Int} {T : Nat → Int} {S : Nat → Nat → Int} (h : zcI n S) (h5 : S 0 0 + 5 ≤ n) (h4 : S 0 4 = 0) : zcI n (zrfd n T S).2 := by
  have h0 := h.1
  have h1 : zcI n (zsr S (S 0 0 + 5) (S 0 1) (S 0 2)) := h.pl (by omega)
  unfold zrfd zrfd0
  split
  · have h2 := h1.sk (T := T)
    unfold zrfd1
    split
    · exact h2.fl
    · have h3 := h2.rn (T := T)
      have e4 : (zrn n T (zskS n T (zsr S (S 0 0 + 5) (S 0 1) (S 0 2)))).2 0 4 = 0 := h4
      unfold zrfd2
      split
      · exact h3.fl
      · rename_i hp
        have hpr := zprm_rng hp
        refine zcI.xp ?_ (by decide)
        obtain ⟨a, b, c, d, e, f, g⟩ := h3
        exact ⟨a, hpr, c, d, e, f, fun k hk => by
          have hk2 : (k : Int) < (zrn n T (zskS n T (zsr S (S 0 0 + 5) (S 0 1) (S 0 2)))).2 0 4 := hk
          rw [e4] at hk2
          omega⟩
  · exact h1.fl
/-- a text -/
noncomputable def zrtF (n : Int) (T : Nat → Int) : Nat → (Nat → Nat → Int) → Int × (Nat → Nat → Int)
  | 0, S => (1, S)
  | m + 1, S => if n ≤ zskS n T S 0 0 then (1, zskS n T S) else if (zrc n T (zskS n T S)).1 = 0 then (0, (zrc n T (zskS n T S)).2) else zrtF n T m (zrc n T (zskS n T S)).2
theorem zrtF_s (n : Int) (T : Nat → Int) (m : Nat) (S : Nat → Nat → Int) : zrtF n T (m + 1) S = if n ≤ zskS n T S 0 0 then (1, zskS n T S) else if (zrc n T (zskS n T S)).1 = 0 then (0, (zrc n T (zskS n T S)).2) else zrtF n T m (zrc n T (zskS n T S)).2 := rfl
noncomputable def zrt1 (n : Int) (T : Nat → Int) (S : Nat → Nat → Int) : Int × (Nat → Nat → Int) := if zwd n T 0 (S 0 0) = 0 then zrtF n T (n + 1 - 0).toNat S else if (zrfd n T S).1 = 0 then (0, (zrfd n T S).2) else zrtF n T (n + 1 - 0).toNat (zrfd n T S).2
noncomputable def zrt (n : Int) (T : Nat → Int) (S : Nat → Nat → Int) : Int × (Nat → Nat → Int) := zrt1 n T (zskS n T (zsd (zsr S 0 0 (-1)) 7 0))
theorem zrtF_ok {n : Int} {T : Nat → Int} (hn : 0 ≤ n ∧ n ≤ 1000) : ∀ (m : Nat) (S : Nat → Nat → Int), zcI n S → zcI n (zrtF n T m S).2 ∧ ((zrtF n T m S).1 = 0 ∨ (zrtF n T m S).1 = 1)
  | 0, S, h => ⟨h, Or.inr rfl⟩
  | m + 1, S, h => by
    have h1 := h.sk (T := T)
    have h2 := h1.rc (T := T) hn
    rw [zrtF_s]
    split
    · exact ⟨h1, Or.inr rfl⟩
    · split
      · exact ⟨h2, Or.inl rfl⟩
      · exact zrtF_ok hn m _ h2
/-- what holds of a reader between two texts -/
def zrI0 (S : Nat → Nat → Int) : Prop := zmI S ∧ zsI S ∧ zlI S
theorem zcI.start {n : Int} {S : Nat → Nat → Int} (h : zrI0 S) (hn : 0 ≤ n) : zcI n (zsd (zsr S 0 0 (-1)) 7 0) := by
  refine ⟨by show (0 : Int) ≤ 0 ∧ (0 : Int) ≤ n; omega, by show (2 : Int) ≤ 7 ∧ (7 : Int) ≤ 31; omega, by show (0 : Int) ≤ 0 ∧ (0 : Int) ≤ 6; omega, fun k => ?_, fun k => ?_, fun k => ?_, fun k hk => ?_⟩
  · rw [zsd_ne (by decide), zsr_ne (by decide)]
    exact h.1 k
  · rw [zsd_ne (by decide), zsr_ne (by decide)]
    exact h.2.1 k
  · rw [zsd_ne (by decide), zsr_ne (by decide)]
    exact h.2.2 k
  · have hk2 : (k : Int) < 0 := hk
    omega
theorem zrt_ok {n : Int} {T : Nat → Int} {S : Nat → Nat → Int} (hn : 0 ≤ n ∧ n ≤ 1000) (h : zrI0 S) : zcI n (zrt n T S).2 ∧ ((zrt n T S).1 = 0 ∨ (zrt n T S).1 = 1) := by
  have h1 : zcI n (zskS n T (zsd (zsr S 0 0 (-1)) 7 0)) := (zcI.start h hn.1).sk
  unfold zrt zrt1
  split
  · exact zrtF_ok hn _ _ h1
  · rename_i hw
    have h5 := zwd_pl (by decide) h1.1 hw
    have e5 : zlen 0 = 5 := rfl
    have h2 := h1.fd (T := T) (by omega) rfl
    split
    · exact ⟨h2, Or.inl rfl⟩
    · exact zrtF_ok hn _ _ h2
set_option maxRecDepth 100000 in
set_option maxHeartbeats 4000000 in
/-- Reader.readCurve -/
theorem c_readCurve (l : Launch) {D : va_G} {cI cJ cZ cP cS cM : ClassId} {L : List Nat} {sz : Nat} {f : Nat → va_E} (r : Nat) (n : Int) (T : Nat → Int) (S : Nat → Nat → Int) (hT : ztape n T) (hc : zcI n S) : zMi l yX3_readCurve wsX3_readCurve 7 152 D (zT cI cJ cZ cP cS cM) L sz (zRO cI cP cZ r n T S f) [.ref r] (fun z g => z = (zrc n T S).1 ∧ g = zRO cI cP cZ r n T (zrc n T S).2 f) := by
  refine zWalk.met (nL := 2) (ret := (some .boolean)) (cc := cX3_readCurve) (by decide) rfl (Nat.le_of_ble_eq_true rfl) ?_
  intro pg en st mi ag bl mt cd ls CX hW hl
  have CX : zC pg st mi ag mt cd cX3_readCurve 2 (some .boolean) RX3 wsX3_readCurve := CX
  generalize hQ : MQ bl _ ag st 0 0 _ = Q
  have hX0 := CX.1
  have hB0 := CX.2.1
  have hl : lv_has ls 2 [(0, .ref r)] := hl
  obtain ⟨H, eH⟩ : ∃ H, H = st.heap := ⟨_, rfl⟩
  obtain ⟨locs, eL⟩ : ∃ L : List Loc, L = [] := ⟨_, rfl⟩
  have hW : zW D (zT cI cJ cZ cP cS cM) L (zQ L sz) st (zRO cI cP cZ r n T S f) st.heap H locs := by rw [eH, eL]; exact hW
  suffices hgo : W pg l en ({ frames := 7, cells := 0, slots := 0, locals := 152 } : Room) st mi ag bl mt cd H locs 0 0 Q (F0 mi 0 ls []) by rw [eH, eL] at hgo; exact hgo
  clear eH eL
  have hn0 := hT.1
  have hn1 := hT.2.1
  have hpl := hc.1
  have h40 := hc.2.2.1
  refine lv_aload_n hX0 hB0 dX3_readCurve_0 rfl (lv_at hl 0 rfl) ?_
  refine z_ldcs CX hW 1 (by decide) rfl dX3_readCurve_1 ?_
  refine z_calli hW (va_runV (C := RX3) (As := [.ref (D.2 98 1)]) (rest := []) CX.fix (c_standsWord l (f := f) r n T S 1 hT (by omega) (by decide)) (cwV 1 CX.fix.2.2.2.2 gX3_readCurve_X3_standsWord rfl rfl rfl (by decide +kernel) ⟨Nat.le_of_ble_eq_true rfl, Nat.le_of_ble_eq_true rfl⟩) (z_preV CX hW (r := (RX3, TX3, 13)) zRO_0 rfl) rfl rfl hl.1 rfl (lv_room (Nat.le_of_ble_eq_true rfl)) dX3_readCurve_3 ⟨Nat.zero_le _, Nat.zero_le _⟩) (fun zv gn H locs hok3 hW => ?_)
  obtain ⟨ez, eg⟩ := hok3
  have eg : gn = zRO cI cP cZ r n T S f := eg
  rw [eg] at hW
  clear eg
  have ez : zv = zwd n T 1 (S 0 0) := ez
  rw [ez]
  clear ez
  have hwd3 := zwd_01 n T 1 (S 0 0)
  refine z_if_ne (tgt := 19) CX dX3_readCurve_6 (by decide) (by constructor <;> omega) (fun c_6 => ?_) (fun c_6 => ?_)
  ·
    refine lv_aload_n hX0 hB0 dX3_readCurve_19 rfl (lv_at hl 0 rfl) ?_
    refine z_get (Cn := RX3) (T := TX3) (N := 13) CX hW (v := .ref (r + 1)) zRO_0 rfl (fun w h => List.mem_cons_of_mem _ (List.mem_append_left _ (List.mem_append_left _ (List.mem_append_left _ (List.mem_append_right _ h))))) 3 (by decide) (List.mem_of_getElem? (i := 2) rfl) rfl rfl dX3_readCurve_20 ?_
    refine z_get (Cn := RX7) (T := TX7) (N := 4) CX hW (v := .int (zI (S 0 4))) zRO_1 rfl (fun w h => List.mem_cons_of_mem _ (List.mem_append_left _ (List.mem_append_left _ (List.mem_append_right _ h)))) 1 (by decide) (List.mem_of_getElem? (i := 3) rfl) rfl rfl dX3_readCurve_23 ?_
    refine lv_bipush (v := zI 6) hX0 hB0 dX3_readCurve_26 (by decide) ?_
    refine z_icmp_lt (tgt := 41) CX dX3_readCurve_28 (by decide) (by constructor <;> omega) (by constructor <;> omega) (fun c_28 => ?_) (fun c_28 => ?_)
    ·
      have hwp := zwd_pl (by decide) hc.1 c_6
      have e5 : zlen 1 = 5 := rfl
      refine lv_aload_n hX0 hB0 dX3_readCurve_41 rfl (lv_at hl 0 rfl) ?_
      refine lv_dup hX0 hB0 dX3_readCurve_42 rfl ?_
      refine z_get (Cn := RX3) (T := TX3) (N := 13) CX hW (v := .int (zI (S 0 0))) zRO_0 rfl (fun w h => List.mem_cons_of_mem _ (List.mem_append_left _ (List.mem_append_left _ (List.mem_append_left _ (List.mem_append_right _ h))))) 12 (by decide) (List.mem_of_getElem? (i := 1) rfl) rfl rfl dX3_readCurve_43 ?_
      refine lv_iconst (v := zI 5) hX0 hB0 dX3_readCurve_46 rfl ?_
      refine z_iadd (z := (S 0 0) + 5) CX dX3_readCurve_47 rfl ?_
      refine z_put (Cn := RX3) (T := TX3) (N := 13) CX hW (v := .int (zI ((S 0 0) + 5))) zRO_0 rfl (fun w h => List.mem_cons_of_mem _ (List.mem_append_left _ (List.mem_append_left _ (List.mem_append_left _ (List.mem_append_right _ h))))) tyX3 tyX3_ok nmX3 12 (by decide) (List.mem_of_getElem? (i := 1) rfl) rfl rfl rfl rfl (Nat.le_of_ble_eq_true rfl) (g := va_up (zRO cI cP cZ r n T S f) r (.inr (3, [.int (zI n), .int (zI (S 0 1)), .int (zI (S 0 2)), .ref (r + 1), .ref (r + 16), .ref (r + 17), .ref (r + 18), .ref (r + 19), .ref (r + 20), .ref (r + 21), .ref (r + 23), .ref (r + 25), .int (zI ((S 0 0) + 5))]))) rfl dX3_readCurve_48 (fun H locs hW => ?_)
      refine lv_aload_n hX0 hB0 dX3_readCurve_51 rfl (lv_at hl 0 rfl) ?_
      have hW := hW
      rw [zRO_wr] at hW
      obtain ⟨S1, hS1⟩ : ∃ q : Nat → Nat → Int, q = zsr S ((S 0 0) + 5) (S 0 1) (S 0 2) := ⟨_, rfl⟩
      rw [← hS1] at hW
      have hS1_0 : S1 0 0 = (S 0 0) + 5 := by rw [hS1]; first | rfl | (simp [zsr, zsd, zset]; done) | ((repeat rw [zset_ne _ _ (by omega)]); first | done | rfl | (simp [zsr, zsd, zset]; done)) | (unfold zsd; (repeat (first | rw [zset_self] | rw [zset_ne _ _ (by omega)])); first | done | rfl | (simp; done))
      have hS1_1 : S1 0 1 = S 0 1 := by rw [hS1]; first | rfl | (simp [zsr, zsd, zset]; done) | ((repeat rw [zset_ne _ _ (by omega)]); first | done | rfl | (simp [zsr, zsd, zset]; done)) | (unfold zsd; (repeat (first | rw [zset_self] | rw [zset_ne _ _ (by omega)])); first | done | rfl | (simp; done))
      have hS1_2 : S1 0 2 = S 0 2 := by rw [hS1]; first | rfl | (simp [zsr, zsd, zset]; done) | ((repeat rw [zset_ne _ _ (by omega)]); first | done | rfl | (simp [zsr, zsd, zset]; done)) | (unfold zsd; (repeat (first | rw [zset_self] | rw [zset_ne _ _ (by omega)])); first | done | rfl | (simp; done))
      have hS1_3 : S1 0 3 = S 0 3 := by rw [hS1]; first | rfl | (simp [zsr, zsd, zset]; done) | ((repeat rw [zset_ne _ _ (by omega)]); first | done | rfl | (simp [zsr, zsd, zset]; done)) | (unfold zsd; (repeat (first | rw [zset_self] | rw [zset_ne _ _ (by omega)])); first | done | rfl | (simp; done))
      have hS1_4 : S1 0 4 = S 0 4 := by rw [hS1]; first | rfl | (simp [zsr, zsd, zset]; done) | ((repeat rw [zset_ne _ _ (by omega)]); first | done | rfl | (simp [zsr, zsd, zset]; done)) | (unfold zsd; (repeat (first | rw [zset_self] | rw [zset_ne _ _ (by omega)])); first | done | rfl | (simp; done))
      skip
      refine z_callv hW (va_runV (C := RX3) (As := []) (rest := []) CX.fix (c_skipBlanks l (f := f) r n T S1 hT (by omega)) (cwV 0 CX.fix.2.2.2.2 gX3_readCurve_X3_skipBlanks rfl rfl rfl (by decide +kernel) ⟨Nat.le_of_ble_eq_true rfl, Nat.le_of_ble_eq_true rfl⟩) (z_preV CX hW (r := (RX3, TX3, 13)) zRO_0 rfl) rfl rfl hl.1 rfl (lv_room (Nat.le_of_ble_eq_true rfl)) dX3_readCurve_52 ⟨Nat.zero_le _, Nat.zero_le _⟩) (fun gn H locs hok52 hW => ?_)
      have hg52 := hok52
      rw [hg52] at hW
      clear hg52
      obtain ⟨S52c, hS52c⟩ : ∃ q : Nat → Nat → Int, q = zskS n T S1 := ⟨_, rfl⟩
      rw [← hS52c] at hW
      have hS52c_0 : S52c 0 0 = zsk n T (S1 0 0) := by rw [hS52c]; first | rfl | (simp [zsr, zsd, zset]; done) | ((repeat rw [zset_ne _ _ (by omega)]); first | done | rfl | (simp [zsr, zsd, zset]; done)) | (unfold zsd; (repeat (first | rw [zset_self] | rw [zset_ne _ _ (by omega)])); first | done | rfl | (simp; done))
      have hS52c_1 : S52c 0 1 = S1 0 1 := by rw [hS52c]; first | rfl | (simp [zsr, zsd, zset]; done) | ((repeat rw [zset_ne _ _ (by omega)]); first | done | rfl | (simp [zsr, zsd, zset]; done)) | (unfold zsd; (repeat (first | rw [zset_self] | rw [zset_ne _ _ (by omega)])); first | done | rfl | (simp; done))
      have hS52c_2 : S52c 0 2 = S1 0 2 := by rw [hS52c]; first | rfl | (simp [zsr, zsd, zset]; done) | ((repeat rw [zset_ne _ _ (by omega)]); first | done | rfl | (simp [zsr, zsd, zset]; done)) | (unfold zsd; (repeat (first | rw [zset_self] | rw [zset_ne _ _ (by omega)])); first | done | rfl | (simp; done))
      have hS52c_3 : S52c 0 3 = S1 0 3 := by rw [hS52c]; first | rfl | (simp [zsr, zsd, zset]; done) | ((repeat rw [zset_ne _ _ (by omega)]); first | done | rfl | (simp [zsr, zsd, zset]; done)) | (unfold zsd; (repeat (first | rw [zset_self] | rw [zset_ne _ _ (by omega)])); first | done | rfl | (simp; done))
      have hS52c_4 : S52c 0 4 = S1 0 4 := by rw [hS52c]; first | rfl | (simp [zsr, zsd, zset]; done) | ((repeat rw [zset_ne _ _ (by omega)]); first | done | rfl | (simp [zsr, zsd, zset]; done)) | (unfold zsd; (repeat (first | rw [zset_self] | rw [zset_ne _ _ (by omega)])); first | done | rfl | (simp; done))
      have hskr52 := zsk_rng (T := T) (show 0 ≤ S1 0 0 ∧ S1 0 0 ≤ n by omega)
      have hc52 : zcI n S52c := by rw [hS52c, hS1]; exact (hc.pl (by omega)).sk
      have hp52 := hc52.1
      refine lv_aload_n hX0 hB0 dX3_readCurve_55 rfl (lv_at hl 0 rfl) ?_
      refine z_get (Cn := RX3) (T := TX3) (N := 13) CX hW (v := .int (zI (S52c 0 0))) zRO_0 rfl (fun w h => List.mem_cons_of_mem _ (List.mem_append_left _ (List.mem_append_left _ (List.mem_append_left _ (List.mem_append_right _ h))))) 12 (by decide) (List.mem_of_getElem? (i := 1) rfl) rfl rfl dX3_readCurve_56 ?_
      refine lv_istore_n (lv' := [(1, .int (zI (S52c 0 0))), (0, .ref r)]) hX0 hB0 dX3_readCurve_59 rfl hl (by decide) rfl (fun ls hl => ?_)
      refine lv_aload_n hX0 hB0 dX3_readCurve_60 rfl (lv_at hl 1 rfl) ?_
      refine z_calli hW (va_runV (C := RX3) (As := []) (rest := []) CX.fix (c_readName l (f := f) r n T S52c hT hc52 (by omega)) (cwV 0 CX.fix.2.2.2.2 gX3_readCurve_X3_readName rfl rfl rfl (by decide +kernel) ⟨Nat.le_of_ble_eq_true rfl, Nat.le_of_ble_eq_true rfl⟩) (z_preV CX hW (r := (RX3, TX3, 13)) zRO_0 rfl) rfl rfl hl.1 rfl (lv_room (Nat.le_of_ble_eq_true rfl)) dX3_readCurve_61 ⟨Nat.zero_le _, Nat.zero_le _⟩) (fun zv gn H locs hok61 hW => ?_)
      obtain ⟨hz61, hg61⟩ := hok61
      obtain ⟨z61, ezv61⟩ : ∃ q, q = zv := ⟨_, rfl⟩
      rw [← ezv61] at hz61 ⊢
      clear ezv61
      rw [hg61] at hW
      clear hg61
      obtain ⟨S61c, hS61c⟩ : ∃ q : Nat → Nat → Int, q = (zrnm n T S52c).2 := ⟨_, rfl⟩
      rw [← hS61c] at hW
      have hb61 : z61 = 0 ∨ z61 = 1 := by rw [hz61]; exact zrnm_01 n T S52c
      have hc61 : zcI n S61c := by rw [hS61c]; exact hc52.nm
      have hp61 := hc61.1
      refine z_if_eq (tgt := 92) CX dX3_readCurve_64 (by decide) (by constructor <;> omega) (fun c_64 => ?_) (fun c_64 => ?_)
      ·
        refine lv_iconst (v := zI 0) hX0 hB0 dX3_readCurve_92 rfl ?_
        rw [← hQ]
        refine z_iret (z := 0) CX hW ?_ rfl dX3_readCurve_93
        have hq : zrc n T S = (0, S61c) := by unfold zrc; rw [if_neg c_6, if_neg (by omega), ← hS1, ← hS52c]; unfold zrc1; rw [← hz61, if_pos c_64, ← hS61c]
        rw [hq]
        exact ⟨rfl, rfl⟩
      ·
        refine lv_aload_n hX0 hB0 dX3_readCurve_67 rfl (lv_at hl 1 rfl) ?_
        refine lv_bipush (v := zI 61) hX0 hB0 dX3_readCurve_68 (by decide) ?_
        refine z_calli hW (va_runV (C := RX3) (As := [.int (zI 61)]) (rest := []) CX.fix (c_expect l (f := f) r n T S61c 61 hT (by omega) (by omega)) (cwV 1 CX.fix.2.2.2.2 gX3_readCurve_X3_expect rfl rfl rfl (by decide +kernel) ⟨Nat.le_of_ble_eq_true rfl, Nat.le_of_ble_eq_true rfl⟩) (z_preV CX hW (r := (RX3, TX3, 13)) zRO_0 rfl) rfl rfl hl.1 rfl (lv_room (Nat.le_of_ble_eq_true rfl)) dX3_readCurve_70 ⟨Nat.zero_le _, Nat.zero_le _⟩) (fun zv gn H locs hok70 hW => ?_)
        obtain ⟨hz70, hg70⟩ := hok70
        obtain ⟨z70, ezv70⟩ : ∃ q, q = zv := ⟨_, rfl⟩
        rw [← ezv70] at hz70 ⊢
        clear ezv70
        rw [hg70] at hW
        clear hg70
        obtain ⟨S70c, hS70c⟩ : ∃ q : Nat → Nat → Int, q = (zxp n T 61 S61c).2 := ⟨_, rfl⟩
        rw [← hS70c] at hW
        have hS70c_3 : S70c 0 3 = S61c 0 3 := by rw [hS70c]; first | rfl | (simp [zsr, zsd, zset]; done) | (exact zxp_num n T 61 S61c (by decide))
        have hS70c_4 : S70c 0 4 = S61c 0 4 := by rw [hS70c]; first | rfl | (simp [zsr, zsd, zset]; done) | (exact zxp_num n T 61 S61c (by decide))
        have hb70 : z70 = 0 ∨ z70 = 1 := by rw [hz70]; exact zxp_01 n T 61 S61c
        have htr70 := zxp_rng (T := T) (sg := 61) (show 0 ≤ S61c 0 0 ∧ S61c 0 0 ≤ n by omega) (by omega)
        rw [← hS70c] at htr70
        have hc70 : zcI n S70c := by rw [hS70c]; exact hc61.xp (by decide)
        have hp70 := hc70.1
        have h370 := hc70.2.1
        refine z_if_eq (tgt := 92) CX dX3_readCurve_73 (by decide) (by constructor <;> omega) (fun c_73 => ?_) (fun c_73 => ?_)
        ·
          refine lv_iconst (v := zI 0) hX0 hB0 dX3_readCurve_92 rfl ?_
          rw [← hQ]
          refine z_iret (z := 0) CX hW ?_ rfl dX3_readCurve_93
          have hq : zrc n T S = (0, S70c) := by unfold zrc; rw [if_neg c_6, if_neg (by omega), ← hS1, ← hS52c]; unfold zrc1; rw [← hz61, if_neg c_64, ← hS61c, ← hz70, if_pos c_73, ← hS70c]
          rw [hq]
          exact ⟨rfl, rfl⟩
        ·
          refine lv_aload_n hX0 hB0 dX3_readCurve_76 rfl (lv_at hl 1 rfl) ?_
          refine z_calli hW (va_runV (C := RX3) (As := []) (rest := []) CX.fix (c_readSum l (f := f) r n T S70c hT (by omega) (by omega) hc70.2.2.2.1 hc70.2.2.2.2.1) (cwV 0 CX.fix.2.2.2.2 gX3_readCurve_X3_readSum rfl rfl rfl (by decide +kernel) ⟨Nat.le_of_ble_eq_true rfl, Nat.le_of_ble_eq_true rfl⟩) (z_preV CX hW (r := (RX3, TX3, 13)) zRO_0 rfl) rfl rfl hl.1 rfl (lv_room (Nat.le_of_ble_eq_true rfl)) dX3_readCurve_77 ⟨Nat.zero_le _, Nat.zero_le _⟩) (fun zv gn H locs hok77 hW => ?_)
          obtain ⟨hz77, hg77⟩ := hok77
          obtain ⟨z77, ezv77⟩ : ∃ q, q = zv := ⟨_, rfl⟩
          rw [← ezv77] at hz77 ⊢
          clear ezv77
          rw [hg77] at hW
          clear hg77
          obtain ⟨S77c, hS77c⟩ : ∃ q : Nat → Nat → Int, q = (zrs n T S70c).2 := ⟨_, rfl⟩
          rw [← hS77c] at hW
          have hb77 : z77 = 0 ∨ z77 = 1 := by rw [hz77]; exact zrs_01 n T S70c
          obtain ⟨hc77, hcp⟩ := hc70.rs (T := T) ⟨hn0, hn1⟩
          rw [← hS77c] at hc77 hcp
          have hp77 := hc77.1
          refine z_if_eq (tgt := 92) CX dX3_readCurve_80 (by decide) (by constructor <;> omega) (fun c_80 => ?_) (fun c_80 => ?_)
          ·
            refine lv_iconst (v := zI 0) hX0 hB0 dX3_readCurve_92 rfl ?_
            rw [← hQ]
            refine z_iret (z := 0) CX hW ?_ rfl dX3_readCurve_93
            have hq : zrc n T S = (0, S77c) := by unfold zrc; rw [if_neg c_6, if_neg (by omega), ← hS1, ← hS52c]; unfold zrc1; rw [← hz61, if_neg c_64, ← hS61c, ← hz70, if_neg c_73, ← hS70c]; unfold zrc2; rw [← hz77, if_pos c_80, ← hS77c]
            rw [hq]
            exact ⟨rfl, rfl⟩
          ·
            refine lv_aload_n hX0 hB0 dX3_readCurve_83 rfl (lv_at hl 1 rfl) ?_
            refine lv_bipush (v := zI 59) hX0 hB0 dX3_readCurve_84 (by decide) ?_
            refine z_calli hW (va_runV (C := RX3) (As := [.int (zI 59)]) (rest := []) CX.fix (c_expect l (f := f) r n T S77c 59 hT (by omega) (by omega)) (cwV 1 CX.fix.2.2.2.2 gX3_readCurve_X3_expect rfl rfl rfl (by decide +kernel) ⟨Nat.le_of_ble_eq_true rfl, Nat.le_of_ble_eq_true rfl⟩) (z_preV CX hW (r := (RX3, TX3, 13)) zRO_0 rfl) rfl rfl hl.1 rfl (lv_room (Nat.le_of_ble_eq_true rfl)) dX3_readCurve_86 ⟨Nat.zero_le _, Nat.zero_le _⟩) (fun zv gn H locs hok86 hW => ?_)
            obtain ⟨hz86, hg86⟩ := hok86
            obtain ⟨z86, ezv86⟩ : ∃ q, q = zv := ⟨_, rfl⟩
            rw [← ezv86] at hz86 ⊢
            clear ezv86
            rw [hg86] at hW
            clear hg86
            obtain ⟨S86c, hS86c⟩ : ∃ q : Nat → Nat → Int, q = (zxp n T 59 S77c).2 := ⟨_, rfl⟩
            rw [← hS86c] at hW
            have hS86c_3 : S86c 0 3 = S77c 0 3 := by rw [hS86c]; first | rfl | (simp [zsr, zsd, zset]; done) | (exact zxp_num n T 59 S77c (by decide))
            have hS86c_4 : S86c 0 4 = S77c 0 4 := by rw [hS86c]; first | rfl | (simp [zsr, zsd, zset]; done) | (exact zxp_num n T 59 S77c (by decide))
            have hb86 : z86 = 0 ∨ z86 = 1 := by rw [hz86]; exact zxp_01 n T 59 S77c
            have htr86 := zxp_rng (T := T) (sg := 59) (show 0 ≤ S77c 0 0 ∧ S77c 0 0 ≤ n by omega) (by omega)
            rw [← hS86c] at htr86
            have hc86 : zcI n S86c := by rw [hS86c]; exact hc77.xp (by decide)
            have hp86 := hc86.1
            have h486 := hc86.2.2.1
            have h386 := hc86.2.1
            have hcp86 : zcan 31 (S86c (20 + 0)) := by rw [hS86c, zxp_k _ _ _ _ (by decide)]; exact zcan_le hcp (by omega)
            have e486 : S86c 0 4 ≤ 5 := by
              have q1 := zxp_num n T 59 S77c (Or.inr rfl)
              have q2 := (zrs_ok (T := T) ⟨hn0, hn1⟩ hc70.1 hc70.2.1.1 hc70.2.2.2.1 hc70.2.2.2.2.1).2.2.1
              have q3 := zxp_num n T 61 S61c (Or.inr rfl)
              have q4 : S61c 0 4 = S52c 0 4 := by rw [hS61c]; unfold zrnm zrnm0; split; rfl; unfold zrnm1; split; rfl; rfl
              rw [← hS86c] at q1
              rw [← hS77c] at q2
              rw [← hS70c] at q3
              omega
            refine z_if_ne (tgt := 94) CX dX3_readCurve_89 (by decide) (by constructor <;> omega) (fun c_89 => ?_) (fun c_89 => ?_)
            ·
              refine lv_aload_n hX0 hB0 dX3_readCurve_94 rfl (lv_at hl 1 rfl) ?_
              refine z_get (Cn := RX3) (T := TX3) (N := 13) CX hW (v := .ref (r + 17)) zRO_0 rfl (fun w h => List.mem_cons_of_mem _ (List.mem_append_left _ (List.mem_append_left _ (List.mem_append_left _ (List.mem_append_right _ h))))) 5 (by decide) (List.mem_of_getElem? (i := 4) rfl) rfl rfl dX3_readCurve_95 ?_
              refine lv_iconst (v := zI 0) hX0 hB0 dX3_readCurve_98 rfl ?_
              refine z_aald (o := some (r + 27 + 4 * 0)) CX hW zRO_17 3 rfl (by refine ⟨?_, ?_, ?_⟩ <;> omega) rfl dX3_readCurve_99 ?_
              refine z_calli hW (va_runV (C := RX2) (As := []) (rest := []) CX.fix (c_top l (f := zRO cI cP cZ r n T S86c f) (r + 27 + 4 * 0) (r + 27 + 4 * 0 + 1) (S86c (20 + 0)) (zRO_s0 (k := 0) (by omega)) (zRO_s1 (k := 0) (by omega)) (by exact hcp86)) (cwV 0 CX.fix.2.2.2.2 gX3_readCurve_X2_top rfl rfl rfl (by decide +kernel) ⟨Nat.le_of_ble_eq_true rfl, Nat.le_of_ble_eq_true rfl⟩) (z_preV CX hW (r := (RX2, TX2, 1)) (zRO_s0 (k := 0) (by omega)) rfl) rfl rfl hl.1 rfl (lv_room (Nat.le_of_ble_eq_true rfl)) dX3_readCurve_100 ⟨Nat.zero_le _, Nat.zero_le _⟩) (fun zv gn H locs hok100 hW => ?_)
              obtain ⟨ez, eg⟩ := hok100
              have eg : gn = zRO cI cP cZ r n T S86c f := eg
              rw [eg] at hW
              clear eg
              have ez : zv = ztop (S86c (20 + 0)) := ez
              rw [ez]
              clear ez
              have htp100 := ztop_rng (S86c (20 + 0))
              refine lv_iconst (v := zI 1) hX0 hB0 dX3_readCurve_103 rfl ?_
              refine z_icmp_ge (tgt := 114) CX dX3_readCurve_104 (by decide) (by constructor <;> omega) (by constructor <;> omega) (fun c_104 => ?_) (fun c_104 => ?_)
              ·
                refine lv_aload_n hX0 hB0 dX3_readCurve_114 rfl (lv_at hl 1 rfl) ?_
                refine z_get (Cn := RX3) (T := TX3) (N := 13) CX hW (v := .ref (r + 1)) zRO_0 rfl (fun w h => List.mem_cons_of_mem _ (List.mem_append_left _ (List.mem_append_left _ (List.mem_append_left _ (List.mem_append_right _ h))))) 3 (by decide) (List.mem_of_getElem? (i := 2) rfl) rfl rfl dX3_readCurve_115 ?_
                refine z_getN (host := "CurveMeets") (Cn := RX7) (T := TX7) (N := 4) CX hW (v := .ref (r + 2)) zRO_1 rfl (fun w h => List.mem_cons_of_mem _ (List.mem_append_left _ (List.mem_append_left _ (List.mem_append_right _ h)))) 2 (by decide) (by decide +kernel) rfl rfl dX3_readCurve_118 ?_
                refine lv_aload_n hX0 hB0 dX3_readCurve_121 rfl (lv_at hl 1 rfl) ?_
                refine z_get (Cn := RX3) (T := TX3) (N := 13) CX hW (v := .ref (r + 1)) zRO_0 rfl (fun w h => List.mem_cons_of_mem _ (List.mem_append_left _ (List.mem_append_left _ (List.mem_append_left _ (List.mem_append_right _ h))))) 3 (by decide) (List.mem_of_getElem? (i := 2) rfl) rfl rfl dX3_readCurve_122 ?_
                refine z_get (Cn := RX7) (T := TX7) (N := 4) CX hW (v := .int (zI (S86c 0 4))) zRO_1 rfl (fun w h => List.mem_cons_of_mem _ (List.mem_append_left _ (List.mem_append_left _ (List.mem_append_right _ h)))) 1 (by decide) (List.mem_of_getElem? (i := 3) rfl) rfl rfl dX3_readCurve_125 ?_
                refine z_aald (o := some (r + 4 + 2 * ((S86c 0 4).toNat))) CX hW zRO_2 3 rfl (by refine ⟨?_, ?_, ?_⟩ <;> omega) (by show some (r + 4 + 2 * _) = _; rfl) dX3_readCurve_128 ?_
                refine lv_aload_n hX0 hB0 dX3_readCurve_129 rfl (lv_at hl 1 rfl) ?_
                refine z_get (Cn := RX3) (T := TX3) (N := 13) CX hW (v := .ref (r + 17)) zRO_0 rfl (fun w h => List.mem_cons_of_mem _ (List.mem_append_left _ (List.mem_append_left _ (List.mem_append_left _ (List.mem_append_right _ h))))) 5 (by decide) (List.mem_of_getElem? (i := 4) rfl) rfl rfl dX3_readCurve_130 ?_
                refine lv_iconst (v := zI 0) hX0 hB0 dX3_readCurve_133 rfl ?_
                refine z_aald (o := some (r + 27 + 4 * 0)) CX hW zRO_17 3 rfl (by refine ⟨?_, ?_, ?_⟩ <;> omega) rfl dX3_readCurve_134 ?_
                refine z_callv hW (va_runV (C := RX2) (As := [.ref (r + 27 + 4 * 0)]) (rest := []) CX.fix (c_copy l (f := zRO cI cP cZ r n T S86c f) (r + 4 + 2 * ((S86c 0 4).toNat)) (r + 4 + 2 * ((S86c 0 4).toNat) + 1) (S86c (7 + ((S86c 0 4).toNat))) (r + 27 + 4 * 0) (r + 27 + 4 * 0 + 1) (S86c (20 + 0)) (zRO_d0 (k := ((S86c 0 4).toNat)) (by omega)) (zRO_d1 (k := ((S86c 0 4).toNat)) (by omega)) (zRO_s0 (k := 0) (by omega)) (zRO_s1 (k := 0) (by omega))) (cwV 1 CX.fix.2.2.2.2 gX3_readCurve_X2_copy rfl rfl rfl (by decide +kernel) ⟨Nat.le_of_ble_eq_true rfl, Nat.le_of_ble_eq_true rfl⟩) (z_preV CX hW (r := (RX2, TX2, 1)) (zRO_d0 (k := ((S86c 0 4).toNat)) (by omega)) rfl) rfl rfl hl.1 rfl (lv_room (Nat.le_of_ble_eq_true rfl)) dX3_readCurve_135 ⟨Nat.zero_le _, Nat.zero_le _⟩) (fun gn H locs hok135 hW => ?_)
                have eg : gn = va_up (zRO cI cP cZ r n T S86c f) (r + 4 + 2 * ((S86c 0 4).toNat) + 1) (zA cI 25 (S86c (20 + 0))) := hok135
                rw [eg] at hW
                clear eg
                refine lv_aload_n hX0 hB0 dX3_readCurve_138 rfl (lv_at hl 1 rfl) ?_
                refine z_get (Cn := RX3) (T := TX3) (N := 13) CX hW (v := .ref (r + 1)) ((va_up_ne _ _ (by omega)).trans zRO_0) rfl (fun w h => List.mem_cons_of_mem _ (List.mem_append_left _ (List.mem_append_left _ (List.mem_append_left _ (List.mem_append_right _ h))))) 3 (by decide) (List.mem_of_getElem? (i := 2) rfl) rfl rfl dX3_readCurve_139 ?_
                refine lv_dup hX0 hB0 dX3_readCurve_142 rfl ?_
                refine z_get (Cn := RX7) (T := TX7) (N := 4) CX hW (v := .int (zI (S86c 0 4))) ((va_up_ne _ _ (by omega)).trans zRO_1) rfl (fun w h => List.mem_cons_of_mem _ (List.mem_append_left _ (List.mem_append_left _ (List.mem_append_right _ h)))) 1 (by decide) (List.mem_of_getElem? (i := 3) rfl) rfl rfl dX3_readCurve_143 ?_
                refine lv_iconst (v := zI 1) hX0 hB0 dX3_readCurve_146 rfl ?_
                refine z_iadd (z := (S86c 0 4) + 1) CX dX3_readCurve_147 rfl ?_
                refine z_put (Cn := RX7) (T := TX7) (N := 4) CX hW (v := .int (zI ((S86c 0 4) + 1))) ((va_up_ne _ _ (by omega)).trans zRO_1) rfl (fun w h => List.mem_cons_of_mem _ (List.mem_append_left _ (List.mem_append_left _ (List.mem_append_right _ h)))) tyX7 tyX7_ok nmX7 1 (by decide) (List.mem_of_getElem? (i := 3) rfl) rfl rfl rfl rfl (Nat.le_of_ble_eq_true rfl) (g := va_up (va_up (zRO cI cP cZ r n T S86c f) (r + 4 + 2 * ((S86c 0 4).toNat) + 1) (zA cI 25 (S86c (20 + 0)))) (r + 1) (.inr (7, [.int (zI (S86c 0 3)), .int (zI ((S86c 0 4) + 1)), .ref (r + 2), .ref (r + 3)]))) rfl dX3_readCurve_148 (fun H locs hW => ?_)
                refine lv_iconst (v := zI 1) hX0 hB0 dX3_readCurve_151 rfl ?_
                have hW := hW
                rw [zRO_wd (k := ((S86c 0 4).toNat)) (by omega)] at hW
                rw [zRO_wdd] at hW
                obtain ⟨S2, hS2⟩ : ∃ q : Nat → Nat → Int, q = zsd (zset S86c (7 + ((S86c 0 4).toNat)) (S86c (20 + 0))) (S86c 0 3) ((S86c 0 4) + 1) := ⟨_, rfl⟩
                rw [← hS2] at hW
                have hS2_0 : S2 0 0 = S86c 0 0 := by rw [hS2]; first | rfl | (simp [zsr, zsd, zset]; done) | ((repeat rw [zset_ne _ _ (by omega)]); first | done | rfl | (simp [zsr, zsd, zset]; done)) | (unfold zsd; (repeat (first | rw [zset_self] | rw [zset_ne _ _ (by omega)])); first | done | rfl | (simp; done))
                have hS2_1 : S2 0 1 = S86c 0 1 := by rw [hS2]; first | rfl | (simp [zsr, zsd, zset]; done) | ((repeat rw [zset_ne _ _ (by omega)]); first | done | rfl | (simp [zsr, zsd, zset]; done)) | (unfold zsd; (repeat (first | rw [zset_self] | rw [zset_ne _ _ (by omega)])); first | done | rfl | (simp; done))
                have hS2_2 : S2 0 2 = S86c 0 2 := by rw [hS2]; first | rfl | (simp [zsr, zsd, zset]; done) | ((repeat rw [zset_ne _ _ (by omega)]); first | done | rfl | (simp [zsr, zsd, zset]; done)) | (unfold zsd; (repeat (first | rw [zset_self] | rw [zset_ne _ _ (by omega)])); first | done | rfl | (simp; done))
                have hS2_3 : S2 0 3 = S86c 0 3 := by rw [hS2]; first | rfl | (simp [zsr, zsd, zset]; done) | ((repeat rw [zset_ne _ _ (by omega)]); first | done | rfl | (simp [zsr, zsd, zset]; done)) | (unfold zsd; (repeat (first | rw [zset_self] | rw [zset_ne _ _ (by omega)])); first | done | rfl | (simp; done))
                have hS2_4 : S2 0 4 = (S86c 0 4) + 1 := by rw [hS2]; first | rfl | (simp [zsr, zsd, zset]; done) | ((repeat rw [zset_ne _ _ (by omega)]); first | done | rfl | (simp [zsr, zsd, zset]; done)) | (unfold zsd; (repeat (first | rw [zset_self] | rw [zset_ne _ _ (by omega)])); first | done | rfl | (simp; done))
                skip
                rw [← hQ]
                refine z_iret (z := 1) CX hW ?_ rfl dX3_readCurve_152
                have hq : zrc n T S = (1, S2) := by unfold zrc; rw [if_neg c_6, if_neg (by omega), ← hS1, ← hS52c]; unfold zrc1; rw [← hz61, if_neg c_64, ← hS61c, ← hz70, if_neg c_73, ← hS70c]; unfold zrc2; rw [← hz77, if_neg c_80, ← hS77c, ← hz86, if_neg (by omega), ← hS86c]; unfold zrc3; rw [if_neg (by omega), hS2]
                rw [hq]
                exact ⟨rfl, rfl⟩
              ·
                refine lv_aload_n hX0 hB0 dX3_readCurve_107 rfl (lv_at hl 1 rfl) ?_
                refine lv_iconst (v := zI 5) hX0 hB0 dX3_readCurve_108 rfl ?_
                refine lv_iload_n hX0 hB0 dX3_readCurve_109 rfl (lv_at hl 0 rfl) ?_
                refine z_calli hW (va_runV (C := RX3) (As := [.int (zI 5), .int (zI (S52c 0 0))]) (rest := []) CX.fix (c_fail l (f := f) r n T S86c 5 (S52c 0 0) hT (by constructor <;> omega) (by constructor <;> omega)) (cwV 2 CX.fix.2.2.2.2 gX3_readCurve_X3_fail rfl rfl rfl (by decide +kernel) ⟨Nat.le_of_ble_eq_true rfl, Nat.le_of_ble_eq_true rfl⟩) (z_preV CX hW (r := (RX3, TX3, 13)) zRO_0 rfl) rfl rfl hl.1 rfl (lv_room (Nat.le_of_ble_eq_true rfl)) dX3_readCurve_110 ⟨Nat.zero_le _, Nat.zero_le _⟩) (fun zv gn H locs hok110 hW => ?_)
                obtain ⟨hz110, hg110⟩ := hok110
                obtain ⟨z110, ezv110⟩ : ∃ q, q = zv := ⟨_, rfl⟩
                rw [← ezv110] at hz110 ⊢
                clear ezv110
                rw [hg110] at hW
                clear hg110
                obtain ⟨S110c, hS110c⟩ : ∃ q : Nat → Nat → Int, q = zfl 5 (S52c 0 0) S86c := ⟨_, rfl⟩
                rw [← hS110c] at hW
                have hS110c_0 : S110c 0 0 = S86c 0 0 := by rw [hS110c]; first | rfl | (simp [zsr, zsd, zset]; done) | ((repeat rw [zset_ne _ _ (by omega)]); first | done | rfl | (simp [zsr, zsd, zset]; done)) | (unfold zsd; (repeat (first | rw [zset_self] | rw [zset_ne _ _ (by omega)])); first | done | rfl | (simp; done))
                have hS110c_1 : S110c 0 1 = 5 := by rw [hS110c]; first | rfl | (simp [zsr, zsd, zset]; done) | ((repeat rw [zset_ne _ _ (by omega)]); first | done | rfl | (simp [zsr, zsd, zset]; done)) | (unfold zsd; (repeat (first | rw [zset_self] | rw [zset_ne _ _ (by omega)])); first | done | rfl | (simp; done))
                have hS110c_2 : S110c 0 2 = S52c 0 0 := by rw [hS110c]; first | rfl | (simp [zsr, zsd, zset]; done) | ((repeat rw [zset_ne _ _ (by omega)]); first | done | rfl | (simp [zsr, zsd, zset]; done)) | (unfold zsd; (repeat (first | rw [zset_self] | rw [zset_ne _ _ (by omega)])); first | done | rfl | (simp; done))
                have hS110c_3 : S110c 0 3 = S86c 0 3 := by rw [hS110c]; first | rfl | (simp [zsr, zsd, zset]; done) | ((repeat rw [zset_ne _ _ (by omega)]); first | done | rfl | (simp [zsr, zsd, zset]; done)) | (unfold zsd; (repeat (first | rw [zset_self] | rw [zset_ne _ _ (by omega)])); first | done | rfl | (simp; done))
                have hS110c_4 : S110c 0 4 = S86c 0 4 := by rw [hS110c]; first | rfl | (simp [zsr, zsd, zset]; done) | ((repeat rw [zset_ne _ _ (by omega)]); first | done | rfl | (simp [zsr, zsd, zset]; done)) | (unfold zsd; (repeat (first | rw [zset_self] | rw [zset_ne _ _ (by omega)])); first | done | rfl | (simp; done))
                rw [← hQ]
                refine z_iret (z := z110) CX hW ?_ (zI_bool (by omega)) dX3_readCurve_113
                have hq : zrc n T S = (0, S110c) := by unfold zrc; rw [if_neg c_6, if_neg (by omega), ← hS1, ← hS52c]; unfold zrc1; rw [← hz61, if_neg c_64, ← hS61c, ← hz70, if_neg c_73, ← hS70c]; unfold zrc2; rw [← hz77, if_neg c_80, ← hS77c, ← hz86, if_neg (by omega), ← hS86c]; unfold zrc3; rw [if_pos (by omega), ← hS110c]
                rw [hq]
                exact ⟨hz110, rfl⟩
            ·
              refine lv_iconst (v := zI 0) hX0 hB0 dX3_readCurve_92 rfl ?_
              rw [← hQ]
              refine z_iret (z := 0) CX hW ?_ rfl dX3_readCurve_93
              have hq : zrc n T S = (0, S86c) := by unfold zrc; rw [if_neg c_6, if_neg (by omega), ← hS1, ← hS52c]; unfold zrc1; rw [← hz61, if_neg c_64, ← hS61c, ← hz70, if_neg c_73, ← hS70c]; unfold zrc2; rw [← hz77, if_neg c_80, ← hS77c, ← hz86, if_pos (by omega), ← hS86c]
              rw [hq]
              exact ⟨rfl, rfl⟩
    ·
      refine lv_aload_n hX0 hB0 dX3_readCurve_31 rfl (lv_at hl 0 rfl) ?_
      refine lv_iconst (v := zI 4) hX0 hB0 dX3_readCurve_32 rfl ?_
      refine lv_aload_n hX0 hB0 dX3_readCurve_33 rfl (lv_at hl 0 rfl) ?_
      refine z_get (Cn := RX3) (T := TX3) (N := 13) CX hW (v := .int (zI (S 0 0))) zRO_0 rfl (fun w h => List.mem_cons_of_mem _ (List.mem_append_left _ (List.mem_append_left _ (List.mem_append_left _ (List.mem_append_right _ h))))) 12 (by decide) (List.mem_of_getElem? (i := 1) rfl) rfl rfl dX3_readCurve_34 ?_
      refine z_calli hW (va_runV (C := RX3) (As := [.int (zI 4), .int (zI (S 0 0))]) (rest := []) CX.fix (c_fail l (f := f) r n T S 4 (S 0 0) hT (by constructor <;> omega) (by constructor <;> omega)) (cwV 2 CX.fix.2.2.2.2 gX3_readCurve_X3_fail rfl rfl rfl (by decide +kernel) ⟨Nat.le_of_ble_eq_true rfl, Nat.le_of_ble_eq_true rfl⟩) (z_preV CX hW (r := (RX3, TX3, 13)) zRO_0 rfl) rfl rfl hl.1 rfl (lv_room (Nat.le_of_ble_eq_true rfl)) dX3_readCurve_37 ⟨Nat.zero_le _, Nat.zero_le _⟩) (fun zv gn H locs hok37 hW => ?_)
      obtain ⟨hz37, hg37⟩ := hok37
      obtain ⟨z37, ezv37⟩ : ∃ q, q = zv := ⟨_, rfl⟩
      rw [← ezv37] at hz37 ⊢
      clear ezv37
      rw [hg37] at hW
      clear hg37
      obtain ⟨S37c, hS37c⟩ : ∃ q : Nat → Nat → Int, q = zfl 4 (S 0 0) S := ⟨_, rfl⟩
      rw [← hS37c] at hW
      have hS37c_0 : S37c 0 0 = S 0 0 := by rw [hS37c]; first | rfl | (simp [zsr, zsd, zset]; done) | ((repeat rw [zset_ne _ _ (by omega)]); first | done | rfl | (simp [zsr, zsd, zset]; done)) | (unfold zsd; (repeat (first | rw [zset_self] | rw [zset_ne _ _ (by omega)])); first | done | rfl | (simp; done))
      have hS37c_1 : S37c 0 1 = 4 := by rw [hS37c]; first | rfl | (simp [zsr, zsd, zset]; done) | ((repeat rw [zset_ne _ _ (by omega)]); first | done | rfl | (simp [zsr, zsd, zset]; done)) | (unfold zsd; (repeat (first | rw [zset_self] | rw [zset_ne _ _ (by omega)])); first | done | rfl | (simp; done))
      have hS37c_2 : S37c 0 2 = S 0 0 := by rw [hS37c]; first | rfl | (simp [zsr, zsd, zset]; done) | ((repeat rw [zset_ne _ _ (by omega)]); first | done | rfl | (simp [zsr, zsd, zset]; done)) | (unfold zsd; (repeat (first | rw [zset_self] | rw [zset_ne _ _ (by omega)])); first | done | rfl | (simp; done))
      have hS37c_3 : S37c 0 3 = S 0 3 := by rw [hS37c]; first | rfl | (simp [zsr, zsd, zset]; done) | ((repeat rw [zset_ne _ _ (by omega)]); first | done | rfl | (simp [zsr, zsd, zset]; done)) | (unfold zsd; (repeat (first | rw [zset_self] | rw [zset_ne _ _ (by omega)])); first | done | rfl | (simp; done))
      have hS37c_4 : S37c 0 4 = S 0 4 := by rw [hS37c]; first | rfl | (simp [zsr, zsd, zset]; done) | ((repeat rw [zset_ne _ _ (by omega)]); first | done | rfl | (simp [zsr, zsd, zset]; done)) | (unfold zsd; (repeat (first | rw [zset_self] | rw [zset_ne _ _ (by omega)])); first | done | rfl | (simp; done))
      rw [← hQ]
      refine z_iret (z := z37) CX hW ?_ (zI_bool (by omega)) dX3_readCurve_40
      have hq : zrc n T S = (0, S37c) := by unfold zrc; rw [if_neg c_6, if_pos (by omega), ← hS37c]
      rw [hq]
      exact ⟨hz37, rfl⟩
  ·
    refine lv_aload_n hX0 hB0 dX3_readCurve_9 rfl (lv_at hl 0 rfl) ?_
    refine lv_iconst (v := zI 1) hX0 hB0 dX3_readCurve_10 rfl ?_
    refine lv_aload_n hX0 hB0 dX3_readCurve_11 rfl (lv_at hl 0 rfl) ?_
    refine z_get (Cn := RX3) (T := TX3) (N := 13) CX hW (v := .int (zI (S 0 0))) zRO_0 rfl (fun w h => List.mem_cons_of_mem _ (List.mem_append_left _ (List.mem_append_left _ (List.mem_append_left _ (List.mem_append_right _ h))))) 12 (by decide) (List.mem_of_getElem? (i := 1) rfl) rfl rfl dX3_readCurve_12 ?_
    refine z_calli hW (va_runV (C := RX3) (As := [.int (zI 1), .int (zI (S 0 0))]) (rest := []) CX.fix (c_fail l (f := f) r n T S 1 (S 0 0) hT (by constructor <;> omega) (by constructor <;> omega)) (cwV 2 CX.fix.2.2.2.2 gX3_readCurve_X3_fail rfl rfl rfl (by decide +kernel) ⟨Nat.le_of_ble_eq_true rfl, Nat.le_of_ble_eq_true rfl⟩) (z_preV CX hW (r := (RX3, TX3, 13)) zRO_0 rfl) rfl rfl hl.1 rfl (lv_room (Nat.le_of_ble_eq_true rfl)) dX3_readCurve_15 ⟨Nat.zero_le _, Nat.zero_le _⟩) (fun zv gn H locs hok15 hW => ?_)
    obtain ⟨hz15, hg15⟩ := hok15
    obtain ⟨z15, ezv15⟩ : ∃ q, q = zv := ⟨_, rfl⟩
    rw [← ezv15] at hz15 ⊢
    clear ezv15
    rw [hg15] at hW
    clear hg15
    obtain ⟨S15c, hS15c⟩ : ∃ q : Nat → Nat → Int, q = zfl 1 (S 0 0) S := ⟨_, rfl⟩
    rw [← hS15c] at hW
    have hS15c_0 : S15c 0 0 = S 0 0 := by rw [hS15c]; first | rfl | (simp [zsr, zsd, zset]; done) | ((repeat rw [zset_ne _ _ (by omega)]); first | done | rfl | (simp [zsr, zsd, zset]; done)) | (unfold zsd; (repeat (first | rw [zset_self] | rw [zset_ne _ _ (by omega)])); first | done | rfl | (simp; done))
    have hS15c_1 : S15c 0 1 = 1 := by rw [hS15c]; first | rfl | (simp [zsr, zsd, zset]; done) | ((repeat rw [zset_ne _ _ (by omega)]); first | done | rfl | (simp [zsr, zsd, zset]; done)) | (unfold zsd; (repeat (first | rw [zset_self] | rw [zset_ne _ _ (by omega)])); first | done | rfl | (simp; done))
    have hS15c_2 : S15c 0 2 = S 0 0 := by rw [hS15c]; first | rfl | (simp [zsr, zsd, zset]; done) | ((repeat rw [zset_ne _ _ (by omega)]); first | done | rfl | (simp [zsr, zsd, zset]; done)) | (unfold zsd; (repeat (first | rw [zset_self] | rw [zset_ne _ _ (by omega)])); first | done | rfl | (simp; done))
    have hS15c_3 : S15c 0 3 = S 0 3 := by rw [hS15c]; first | rfl | (simp [zsr, zsd, zset]; done) | ((repeat rw [zset_ne _ _ (by omega)]); first | done | rfl | (simp [zsr, zsd, zset]; done)) | (unfold zsd; (repeat (first | rw [zset_self] | rw [zset_ne _ _ (by omega)])); first | done | rfl | (simp; done))
    have hS15c_4 : S15c 0 4 = S 0 4 := by rw [hS15c]; first | rfl | (simp [zsr, zsd, zset]; done) | ((repeat rw [zset_ne _ _ (by omega)]); first | done | rfl | (simp [zsr, zsd, zset]; done)) | (unfold zsd; (repeat (first | rw [zset_self] | rw [zset_ne _ _ (by omega)])); first | done | rfl | (simp; done))
    rw [← hQ]
    refine z_iret (z := z15) CX hW ?_ (zI_bool (by omega)) dX3_readCurve_18
    have hq : zrc n T S = (0, S15c) := by unfold zrc; rw [if_pos (by omega), ← hS15c]
    rw [hq]
    exact ⟨hz15, rfl⟩
set_option maxRecDepth 100000 in
set_option maxHeartbeats 4000000 in
/-- Reader.readField -/
theorem c_readField (l : Launch) {D : va_G} {cI cJ cZ cP cS cM : ClassId} {L : List Nat} {sz : Nat} {f : Nat → va_E} (r : Nat) (n : Int) (T : Nat → Int) (S : Nat → Nat → Int) (hT : ztape n T) (hc : zcI n S) (h5 : S 0 0 + 5 ≤ n) (h4 : S 0 4 = 0) : zMi l yX3_readField wsX3_readField 4 83 D (zT cI cJ cZ cP cS cM) L sz (zRO cI cP cZ r n T S f) [.ref r] (fun z g => z = (zrfd n T S).1 ∧ g = zRO cI cP cZ r n T (zrfd n T S).2 f) := by
  refine zWalk.met (nL := 4) (ret := (some .boolean)) (cc := cX3_readField) (by decide) rfl (Nat.le_of_ble_eq_true rfl) ?_
  intro pg en st mi ag bl mt cd ls CX hW hl
  have CX : zC pg st mi ag mt cd cX3_readField 4 (some .boolean) RX3 wsX3_readField := CX
  generalize hQ : MQ bl _ ag st 0 0 _ = Q
  have hX0 := CX.1
  have hB0 := CX.2.1
  have hl : lv_has ls 4 [(0, .ref r)] := hl
  obtain ⟨H, eH⟩ : ∃ H, H = st.heap := ⟨_, rfl⟩
  obtain ⟨locs, eL⟩ : ∃ L : List Loc, L = [] := ⟨_, rfl⟩
  have hW : zW D (zT cI cJ cZ cP cS cM) L (zQ L sz) st (zRO cI cP cZ r n T S f) st.heap H locs := by rw [eH, eL]; exact hW
  suffices hgo : W pg l en ({ frames := 4, cells := 0, slots := 0, locals := 83 } : Room) st mi ag bl mt cd H locs 0 0 Q (F0 mi 0 ls []) by rw [eH, eL] at hgo; exact hgo
  clear eH eL
  have hn0 := hT.1
  have hn1 := hT.2.1
  have hpl := hc.1
  refine lv_aload_n hX0 hB0 dX3_readField_0 rfl (lv_at hl 0 rfl) ?_
  refine lv_dup hX0 hB0 dX3_readField_1 rfl ?_
  refine z_get (Cn := RX3) (T := TX3) (N := 13) CX hW (v := .int (zI (S 0 0))) zRO_0 rfl (fun w h => List.mem_cons_of_mem _ (List.mem_append_left _ (List.mem_append_right _ h))) 12 (by decide) (List.mem_of_getElem? (i := 1) rfl) rfl rfl dX3_readField_2 ?_
  refine lv_iconst (v := zI 5) hX0 hB0 dX3_readField_5 rfl ?_
  refine z_iadd (z := (S 0 0) + 5) CX dX3_readField_6 rfl ?_
  refine z_put (Cn := RX3) (T := TX3) (N := 13) CX hW (v := .int (zI ((S 0 0) + 5))) zRO_0 rfl (fun w h => List.mem_cons_of_mem _ (List.mem_append_left _ (List.mem_append_right _ h))) tyX3 tyX3_ok nmX3 12 (by decide) (List.mem_of_getElem? (i := 1) rfl) rfl rfl rfl rfl (Nat.le_of_ble_eq_true rfl) (g := va_up (zRO cI cP cZ r n T S f) r (.inr (3, [.int (zI n), .int (zI (S 0 1)), .int (zI (S 0 2)), .ref (r + 1), .ref (r + 16), .ref (r + 17), .ref (r + 18), .ref (r + 19), .ref (r + 20), .ref (r + 21), .ref (r + 23), .ref (r + 25), .int (zI ((S 0 0) + 5))]))) rfl dX3_readField_7 (fun H locs hW => ?_)
  refine lv_aload_n hX0 hB0 dX3_readField_10 rfl (lv_at hl 0 rfl) ?_
  refine lv_aload_n hX0 hB0 dX3_readField_11 rfl (lv_at hl 0 rfl) ?_
  refine z_get (Cn := RX3) (T := TX3) (N := 13) CX hW (v := .int (zI ((S 0 0) + 5))) (va_up_self _ _ _) rfl (fun w h => List.mem_cons_of_mem _ (List.mem_append_left _ (List.mem_append_right _ h))) 12 (by decide) (List.mem_of_getElem? (i := 1) rfl) rfl rfl dX3_readField_12 ?_
  have hW := hW
  rw [zRO_wr] at hW
  obtain ⟨S1, hS1⟩ : ∃ q : Nat → Nat → Int, q = zsr S ((S 0 0) + 5) (S 0 1) (S 0 2) := ⟨_, rfl⟩
  rw [← hS1] at hW
  have hS1_0 : S1 0 0 = (S 0 0) + 5 := by rw [hS1]; first | rfl | (simp [zsr, zsd, zset]; done) | ((repeat rw [zset_ne _ _ (by omega)]); first | done | rfl | (simp [zsr, zsd, zset]; done)) | (unfold zsd; (repeat (first | rw [zset_self] | rw [zset_ne _ _ (by omega)])); first | done | rfl | (simp; done))
  have hS1_1 : S1 0 1 = S 0 1 := by rw [hS1]; first | rfl | (simp [zsr, zsd, zset]; done) | ((repeat rw [zset_ne _ _ (by omega)]); first | done | rfl | (simp [zsr, zsd, zset]; done)) | (unfold zsd; (repeat (first | rw [zset_self] | rw [zset_ne _ _ (by omega)])); first | done | rfl | (simp; done))
  have hS1_2 : S1 0 2 = S 0 2 := by rw [hS1]; first | rfl | (simp [zsr, zsd, zset]; done) | ((repeat rw [zset_ne _ _ (by omega)]); first | done | rfl | (simp [zsr, zsd, zset]; done)) | (unfold zsd; (repeat (first | rw [zset_self] | rw [zset_ne _ _ (by omega)])); first | done | rfl | (simp; done))
  have hS1_3 : S1 0 3 = S 0 3 := by rw [hS1]; first | rfl | (simp [zsr, zsd, zset]; done) | ((repeat rw [zset_ne _ _ (by omega)]); first | done | rfl | (simp [zsr, zsd, zset]; done)) | (unfold zsd; (repeat (first | rw [zset_self] | rw [zset_ne _ _ (by omega)])); first | done | rfl | (simp; done))
  have hS1_4 : S1 0 4 = S 0 4 := by rw [hS1]; first | rfl | (simp [zsr, zsd, zset]; done) | ((repeat rw [zset_ne _ _ (by omega)]); first | done | rfl | (simp [zsr, zsd, zset]; done)) | (unfold zsd; (repeat (first | rw [zset_self] | rw [zset_ne _ _ (by omega)])); first | done | rfl | (simp; done))
  skip
  refine z_calli hW (va_runV (C := RX3) (As := [.int (zI ((S 0 0) + 5))]) (rest := []) CX.fix (c_byteAt l (f := f) r n T S1 ((S 0 0) + 5) hT (by constructor <;> omega)) (cwV 1 CX.fix.2.2.2.2 gX3_readField_X3_byteAt rfl rfl rfl (by decide +kernel) ⟨Nat.le_of_ble_eq_true rfl, Nat.le_of_ble_eq_true rfl⟩) (z_preV CX hW (r := (RX3, TX3, 13)) zRO_0 rfl) rfl rfl hl.1 rfl (lv_room (Nat.le_of_ble_eq_true rfl)) dX3_readField_15 ⟨Nat.zero_le _, Nat.zero_le _⟩) (fun zv gn H locs hok15 hW => ?_)
  obtain ⟨ez, eg⟩ := hok15
  have eg : gn = zRO cI cP cZ r n T S1 f := eg
  rw [eg] at hW
  clear eg
  have ez : zv = zby n T ((S 0 0) + 5) := ez
  rw [ez]
  clear ez
  have hby15 := zby_rng hT ((S 0 0) + 5)
  refine z_calli hW (va_runS (As := [.int (zI (zby n T ((S 0 0) + 5)))]) (rest := []) CX.fix (c_isDigit l (f := zRO cI cP cZ r n T S1 f) (zby n T ((S 0 0) + 5)) (by constructor <;> omega)) (va_cwS 1 CX.fix.2.2.2.2 gX3_readField_X3_isDigit rfl rfl rfl (by decide +kernel) ⟨Nat.le_of_ble_eq_true rfl, Nat.le_of_ble_eq_true rfl⟩) (z_preS CX hW) rfl rfl hl.1 rfl (lv_room (Nat.le_of_ble_eq_true rfl)) dX3_readField_18 ⟨Nat.zero_le _, Nat.zero_le _⟩) (fun zv gn H locs hok18 hW => ?_)
  obtain ⟨ez, eg⟩ := hok18
  have eg : gn = zRO cI cP cZ r n T S1 f := eg
  rw [eg] at hW
  clear eg
  have ez : zv = zdig (zby n T ((S 0 0) + 5)) := ez
  rw [ez]
  clear ez
  have hdg18 := zdig_01 (zby n T ((S 0 0) + 5))
  refine z_if_eq (tgt := 34) CX dX3_readField_21 (by decide) (by constructor <;> omega) (fun c_21 => ?_) (fun c_21 => ?_)
  ·
    rw [← hS1_0] at c_21
    refine lv_aload_n hX0 hB0 dX3_readField_34 rfl (lv_at hl 0 rfl) ?_
    refine z_callv hW (va_runV (C := RX3) (As := []) (rest := []) CX.fix (c_skipBlanks l (f := f) r n T S1 hT (by omega)) (cwV 0 CX.fix.2.2.2.2 gX3_readField_X3_skipBlanks rfl rfl rfl (by decide +kernel) ⟨Nat.le_of_ble_eq_true rfl, Nat.le_of_ble_eq_true rfl⟩) (z_preV CX hW (r := (RX3, TX3, 13)) zRO_0 rfl) rfl rfl hl.1 rfl (lv_room (Nat.le_of_ble_eq_true rfl)) dX3_readField_35 ⟨Nat.zero_le _, Nat.zero_le _⟩) (fun gn H locs hok35 hW => ?_)
    have hg35 := hok35
    rw [hg35] at hW
    clear hg35
    obtain ⟨S35c, hS35c⟩ : ∃ q : Nat → Nat → Int, q = zskS n T S1 := ⟨_, rfl⟩
    rw [← hS35c] at hW
    have hS35c_0 : S35c 0 0 = zsk n T (S1 0 0) := by rw [hS35c]; first | rfl | (simp [zsr, zsd, zset]; done) | ((repeat rw [zset_ne _ _ (by omega)]); first | done | rfl | (simp [zsr, zsd, zset]; done)) | (unfold zsd; (repeat (first | rw [zset_self] | rw [zset_ne _ _ (by omega)])); first | done | rfl | (simp; done))
    have hS35c_1 : S35c 0 1 = S1 0 1 := by rw [hS35c]; first | rfl | (simp [zsr, zsd, zset]; done) | ((repeat rw [zset_ne _ _ (by omega)]); first | done | rfl | (simp [zsr, zsd, zset]; done)) | (unfold zsd; (repeat (first | rw [zset_self] | rw [zset_ne _ _ (by omega)])); first | done | rfl | (simp; done))
    have hS35c_2 : S35c 0 2 = S1 0 2 := by rw [hS35c]; first | rfl | (simp [zsr, zsd, zset]; done) | ((repeat rw [zset_ne _ _ (by omega)]); first | done | rfl | (simp [zsr, zsd, zset]; done)) | (unfold zsd; (repeat (first | rw [zset_self] | rw [zset_ne _ _ (by omega)])); first | done | rfl | (simp; done))
    have hS35c_3 : S35c 0 3 = S1 0 3 := by rw [hS35c]; first | rfl | (simp [zsr, zsd, zset]; done) | ((repeat rw [zset_ne _ _ (by omega)]); first | done | rfl | (simp [zsr, zsd, zset]; done)) | (unfold zsd; (repeat (first | rw [zset_self] | rw [zset_ne _ _ (by omega)])); first | done | rfl | (simp; done))
    have hS35c_4 : S35c 0 4 = S1 0 4 := by rw [hS35c]; first | rfl | (simp [zsr, zsd, zset]; done) | ((repeat rw [zset_ne _ _ (by omega)]); first | done | rfl | (simp [zsr, zsd, zset]; done)) | (unfold zsd; (repeat (first | rw [zset_self] | rw [zset_ne _ _ (by omega)])); first | done | rfl | (simp; done))
    have hskr35 := zsk_rng (T := T) (show 0 ≤ S1 0 0 ∧ S1 0 0 ≤ n by omega)
    refine lv_aload_n hX0 hB0 dX3_readField_38 rfl (lv_at hl 0 rfl) ?_
    refine z_get (Cn := RX3) (T := TX3) (N := 13) CX hW (v := .int (zI (S35c 0 0))) zRO_0 rfl (fun w h => List.mem_cons_of_mem _ (List.mem_append_left _ (List.mem_append_right _ h))) 12 (by decide) (List.mem_of_getElem? (i := 1) rfl) rfl rfl dX3_readField_39 ?_
    refine lv_istore_n (lv' := [(1, .int (zI (S35c 0 0))), (0, .ref r)]) hX0 hB0 dX3_readField_42 rfl hl (by decide) rfl (fun ls hl => ?_)
    refine lv_aload_n hX0 hB0 dX3_readField_43 rfl (lv_at hl 1 rfl) ?_
    refine lv_iload_n hX0 hB0 dX3_readField_44 rfl (lv_at hl 0 rfl) ?_
    refine z_calli hW (va_runV (C := RX3) (As := [.int (zI (S35c 0 0))]) (rest := []) CX.fix (c_byteAt l (f := f) r n T S35c (S35c 0 0) hT (by constructor <;> omega)) (cwV 1 CX.fix.2.2.2.2 gX3_readField_X3_byteAt rfl rfl rfl (by decide +kernel) ⟨Nat.le_of_ble_eq_true rfl, Nat.le_of_ble_eq_true rfl⟩) (z_preV CX hW (r := (RX3, TX3, 13)) zRO_0 rfl) rfl rfl hl.1 rfl (lv_room (Nat.le_of_ble_eq_true rfl)) dX3_readField_45 ⟨Nat.zero_le _, Nat.zero_le _⟩) (fun zv gn H locs hok45 hW => ?_)
    obtain ⟨ez, eg⟩ := hok45
    have eg : gn = zRO cI cP cZ r n T S35c f := eg
    rw [eg] at hW
    clear eg
    have ez : zv = zby n T (S35c 0 0) := ez
    rw [ez]
    clear ez
    have hby45 := zby_rng hT (S35c 0 0)
    refine z_calli hW (va_runS (As := [.int (zI (zby n T (S35c 0 0)))]) (rest := []) CX.fix (c_isDigit l (f := zRO cI cP cZ r n T S35c f) (zby n T (S35c 0 0)) (by constructor <;> omega)) (va_cwS 1 CX.fix.2.2.2.2 gX3_readField_X3_isDigit rfl rfl rfl (by decide +kernel) ⟨Nat.le_of_ble_eq_true rfl, Nat.le_of_ble_eq_true rfl⟩) (z_preS CX hW) rfl rfl hl.1 rfl (lv_room (Nat.le_of_ble_eq_true rfl)) dX3_readField_48 ⟨Nat.zero_le _, Nat.zero_le _⟩) (fun zv gn H locs hok48 hW => ?_)
    obtain ⟨ez, eg⟩ := hok48
    have eg : gn = zRO cI cP cZ r n T S35c f := eg
    rw [eg] at hW
    clear eg
    have ez : zv = zdig (zby n T (S35c 0 0)) := ez
    rw [ez]
    clear ez
    have hdg48 := zdig_01 (zby n T (S35c 0 0))
    refine z_if_ne (tgt := 61) CX dX3_readField_51 (by decide) (by constructor <;> omega) (fun c_51 => ?_) (fun c_51 => ?_)
    ·
      refine lv_aload_n hX0 hB0 dX3_readField_61 rfl (lv_at hl 1 rfl) ?_
      refine z_calli hW (va_runV (C := RX3) (As := []) (rest := []) CX.fix (c_readNumber l (f := f) r n T S35c hT (by omega)) (cwV 0 CX.fix.2.2.2.2 gX3_readField_X3_readNumber rfl rfl rfl (by decide +kernel) ⟨Nat.le_of_ble_eq_true rfl, Nat.le_of_ble_eq_true rfl⟩) (z_preV CX hW (r := (RX3, TX3, 13)) zRO_0 rfl) rfl rfl hl.1 rfl (lv_room (Nat.le_of_ble_eq_true rfl)) dX3_readField_62 ⟨Nat.zero_le _, Nat.zero_le _⟩) (fun zv gn H locs hok62 hW => ?_)
      obtain ⟨hz62, hg62⟩ := hok62
      obtain ⟨z62, ezv62⟩ : ∃ q, q = zv := ⟨_, rfl⟩
      rw [← ezv62] at hz62 ⊢
      clear ezv62
      rw [hg62] at hW
      clear hg62
      obtain ⟨S62c, hS62c⟩ : ∃ q : Nat → Nat → Int, q = (zrn n T S35c).2 := ⟨_, rfl⟩
      rw [← hS62c] at hW
      have hS62c_0 : S62c 0 0 = (zrnA n T (S35c 0 0)).1 := by rw [hS62c]; first | rfl | (simp [zsr, zsd, zset]; done) | ((repeat rw [zset_ne _ _ (by omega)]); first | done | rfl | (simp [zsr, zsd, zset]; done)) | (unfold zsd; (repeat (first | rw [zset_self] | rw [zset_ne _ _ (by omega)])); first | done | rfl | (simp; done))
      have hS62c_1 : S62c 0 1 = S35c 0 1 := by rw [hS62c]; first | rfl | (simp [zsr, zsd, zset]; done) | (exact zrn_num n T S35c (by decide))
      have hS62c_2 : S62c 0 2 = S35c 0 2 := by rw [hS62c]; first | rfl | (simp [zsr, zsd, zset]; done) | (exact zrn_num n T S35c (by decide))
      have hS62c_3 : S62c 0 3 = S35c 0 3 := by rw [hS62c]; first | rfl | (simp [zsr, zsd, zset]; done) | (exact zrn_num n T S35c (by decide))
      have hS62c_4 : S62c 0 4 = S35c 0 4 := by rw [hS62c]; first | rfl | (simp [zsr, zsd, zset]; done) | (exact zrn_num n T S35c (by decide))
      have hra62 := zrnA_rng (T := T) (show 0 ≤ S35c 0 0 ∧ S35c 0 0 ≤ n by omega)
      have hrv62 : -1 ≤ z62 ∧ z62 ≤ 2147483647 := by rw [hz62]; exact zrnV_rng (by omega)
      refine lv_istore_n (lv' := [(2, .int (zI z62)), (1, .int (zI (S35c 0 0))), (0, .ref r)]) hX0 hB0 dX3_readField_65 rfl hl (by decide) rfl (fun ls hl => ?_)
      refine lv_iconst (v := zI 0) hX0 hB0 dX3_readField_66 rfl ?_
      refine lv_istore_n (lv' := [(3, .int (zI 0)), (2, .int (zI z62)), (1, .int (zI (S35c 0 0))), (0, .ref r)]) hX0 hB0 dX3_readField_67 rfl hl (by decide) rfl (fun ls hl => ?_)
      have hL68 : ∀ (fu : Nat) (k : Int), (0 ≤ k ∧ k ≤ 11 ∧ zprm z62 = zprF z62 (11 - k).toNat k) → (11 - k).toNat < fu → ∀ (H : Heap) (locs : List Loc) (ls : Array Slot), zW D (zT cI cJ cZ cP cS cM) L (zQ L sz) st (zRO cI cP cZ r n T S62c f) st.heap H locs → lv_has ls 4 [(3, .int (zI k)), (2, .int (zI z62)), (1, .int (zI (S35c 0 0))), (0, .ref r)] → W pg l en ({ frames := 4, cells := 0, slots := 0, locals := 83 } : Room) st mi ag bl mt cd H locs 0 0 Q (F0 mi 68 ls []) := by
        intro fu
        induction fu with
        | zero => intro k _ hfu; exact absurd hfu (Nat.not_lt_zero _)
        | succ fu ih68 =>
          intro k hinv68 hfu68 H locs ls hW hl
          obtain ⟨hk0, hk1, hkz⟩ := hinv68
          refine lv_iload_n hX0 hB0 dX3_readField_68 rfl (lv_at hl 0 rfl) ?_
          refine z_gets CX hW hW.2.2.2.2.2.2.1.1 (List.mem_of_getElem? (i := 2) rfl) rfl dX3_readField_69 ?_
          refine z_tlen (n := 11) CX hW hW.2.2.2.2.2.2.1.2 rfl dX3_readField_72 ?_
          refine z_icmp_ge (tgt := 106) CX dX3_readField_73 (by decide) (by constructor <;> omega) (by constructor <;> omega) (fun c_73 => ?_) (fun c_73 => ?_)
          ·
            refine lv_aload_n hX0 hB0 dX3_readField_106 rfl (lv_at hl 3 rfl) ?_
            refine lv_iconst (v := zI 2) hX0 hB0 dX3_readField_107 rfl ?_
            refine lv_iload_n hX0 hB0 dX3_readField_108 rfl (lv_at hl 2 rfl) ?_
            refine z_calli hW (va_runV (C := RX3) (As := [.int (zI 2), .int (zI (S35c 0 0))]) (rest := []) CX.fix (c_fail l (f := f) r n T S62c 2 (S35c 0 0) hT (by constructor <;> omega) (by constructor <;> omega)) (cwV 2 CX.fix.2.2.2.2 gX3_readField_X3_fail rfl rfl rfl (by decide +kernel) ⟨Nat.le_of_ble_eq_true rfl, Nat.le_of_ble_eq_true rfl⟩) (z_preV CX hW (r := (RX3, TX3, 13)) zRO_0 rfl) rfl rfl hl.1 rfl (lv_room (Nat.le_of_ble_eq_true rfl)) dX3_readField_109 ⟨Nat.zero_le _, Nat.zero_le _⟩) (fun zv gn H locs hok109 hW => ?_)
            obtain ⟨hz109, hg109⟩ := hok109
            obtain ⟨z109, ezv109⟩ : ∃ q, q = zv := ⟨_, rfl⟩
            rw [← ezv109] at hz109 ⊢
            clear ezv109
            rw [hg109] at hW
            clear hg109
            obtain ⟨S109c, hS109c⟩ : ∃ q : Nat → Nat → Int, q = zfl 2 (S35c 0 0) S62c := ⟨_, rfl⟩
            rw [← hS109c] at hW
            have hS109c_0 : S109c 0 0 = S62c 0 0 := by rw [hS109c]; first | rfl | (simp [zsr, zsd, zset]; done) | ((repeat rw [zset_ne _ _ (by omega)]); first | done | rfl | (simp [zsr, zsd, zset]; done)) | (unfold zsd; (repeat (first | rw [zset_self] | rw [zset_ne _ _ (by omega)])); first | done | rfl | (simp; done))
            have hS109c_1 : S109c 0 1 = 2 := by rw [hS109c]; first | rfl | (simp [zsr, zsd, zset]; done) | ((repeat rw [zset_ne _ _ (by omega)]); first | done | rfl | (simp [zsr, zsd, zset]; done)) | (unfold zsd; (repeat (first | rw [zset_self] | rw [zset_ne _ _ (by omega)])); first | done | rfl | (simp; done))
            have hS109c_2 : S109c 0 2 = S35c 0 0 := by rw [hS109c]; first | rfl | (simp [zsr, zsd, zset]; done) | ((repeat rw [zset_ne _ _ (by omega)]); first | done | rfl | (simp [zsr, zsd, zset]; done)) | (unfold zsd; (repeat (first | rw [zset_self] | rw [zset_ne _ _ (by omega)])); first | done | rfl | (simp; done))
            have hS109c_3 : S109c 0 3 = S62c 0 3 := by rw [hS109c]; first | rfl | (simp [zsr, zsd, zset]; done) | ((repeat rw [zset_ne _ _ (by omega)]); first | done | rfl | (simp [zsr, zsd, zset]; done)) | (unfold zsd; (repeat (first | rw [zset_self] | rw [zset_ne _ _ (by omega)])); first | done | rfl | (simp; done))
            have hS109c_4 : S109c 0 4 = S62c 0 4 := by rw [hS109c]; first | rfl | (simp [zsr, zsd, zset]; done) | ((repeat rw [zset_ne _ _ (by omega)]); first | done | rfl | (simp [zsr, zsd, zset]; done)) | (unfold zsd; (repeat (first | rw [zset_self] | rw [zset_ne _ _ (by omega)])); first | done | rfl | (simp; done))
            rw [← hQ]
            refine z_iret (z := z109) CX hW ?_ (zI_bool (by omega)) dX3_readField_112
            have hpm : zprm z62 = 0 := by rw [hkz, show (11 - k).toNat = 0 by omega]; rfl
            have hq : zrfd n T S = (0, S109c) := by unfold zrfd zrfd0; rw [← hS1, if_pos c_21, ← hS35c]; unfold zrfd1; rw [if_neg (by omega)]; unfold zrfd2; rw [← hz62, if_pos hpm, ← hS62c, ← hS109c]
            rw [hq]
            exact ⟨hz109, rfl⟩
          ·
            refine z_gets CX hW hW.2.2.2.2.2.2.1.1 (List.mem_of_getElem? (i := 2) rfl) rfl dX3_readField_76 ?_
            refine lv_iload_n hX0 hB0 dX3_readField_79 rfl (lv_at hl 0 rfl) ?_
            refine z_tald (d := zPR) (z := zPR k.toNat) CX hW hW.2.2.2.2.2.2.1.2 (by refine ⟨?_, ?_, ?_⟩ <;> omega) rfl dX3_readField_80 ?_
            refine lv_iload_n hX0 hB0 dX3_readField_81 rfl (lv_at hl 1 rfl) ?_
            have hpk := zPR_rng k.toNat
            refine z_icmp_ne (tgt := 100) CX dX3_readField_82 (by decide) (by constructor <;> omega) (by constructor <;> omega) (fun c_82 => ?_) (fun c_82 => ?_)
            ·
              refine lv_iinc (v := zI (k + 1)) (lv' := [(3, .int (zI (k + 1))), (2, .int (zI z62)), (1, .int (zI (S35c 0 0))), (0, .ref r)]) hX0 hB0 dX3_readField_100 hl (k := 0) rfl (zI_add _ _) (by decide) rfl (fun ls hl => ?_)
              refine lv_goto (tgt := 68) hX0 hB0 dX3_readField_103 (by decide) ?_
              exact ih68 (k + 1) ⟨by omega, by omega, by rw [hkz, zprF_s _ (by omega), if_neg c_82]⟩ (by omega) H locs ls hW (lv_sub hl [0, 1, 2, 3] rfl)
            ·
              refine lv_aload_n hX0 hB0 dX3_readField_85 rfl (lv_at hl 3 rfl) ?_
              refine z_get (Cn := RX3) (T := TX3) (N := 13) CX hW (v := .ref (r + 1)) zRO_0 rfl (fun w h => List.mem_cons_of_mem _ (List.mem_append_left _ (List.mem_append_right _ h))) 3 (by decide) (List.mem_of_getElem? (i := 3) rfl) rfl rfl dX3_readField_86 ?_
              refine lv_iload_n hX0 hB0 dX3_readField_89 rfl (lv_at hl 1 rfl) ?_
              refine z_put (Cn := RX7) (T := TX7) (N := 4) CX hW (v := .int (zI z62)) zRO_1 rfl (fun w h => List.mem_cons_of_mem _ (List.mem_append_right _ h)) tyX7 tyX7_ok nmX7 0 (by decide) (List.mem_of_getElem? (i := 4) rfl) rfl rfl rfl rfl (Nat.le_of_ble_eq_true rfl) (g := va_up (zRO cI cP cZ r n T S62c f) (r + 1) (.inr (7, [.int (zI z62), .int (zI (S62c 0 4)), .ref (r + 2), .ref (r + 3)]))) rfl dX3_readField_90 (fun H locs hW => ?_)
              refine lv_aload_n hX0 hB0 dX3_readField_93 rfl (lv_at hl 3 rfl) ?_
              refine lv_bipush (v := zI 59) hX0 hB0 dX3_readField_94 (by decide) ?_
              have hW := hW
              rw [zRO_wdd] at hW
              obtain ⟨S2, hS2⟩ : ∃ q : Nat → Nat → Int, q = zsd S62c z62 (S62c 0 4) := ⟨_, rfl⟩
              rw [← hS2] at hW
              have hS2_0 : S2 0 0 = S62c 0 0 := by rw [hS2]; first | rfl | (simp [zsr, zsd, zset]; done) | ((repeat rw [zset_ne _ _ (by omega)]); first | done | rfl | (simp [zsr, zsd, zset]; done)) | (unfold zsd; (repeat (first | rw [zset_self] | rw [zset_ne _ _ (by omega)])); first | done | rfl | (simp; done))
              have hS2_1 : S2 0 1 = S62c 0 1 := by rw [hS2]; first | rfl | (simp [zsr, zsd, zset]; done) | ((repeat rw [zset_ne _ _ (by omega)]); first | done | rfl | (simp [zsr, zsd, zset]; done)) | (unfold zsd; (repeat (first | rw [zset_self] | rw [zset_ne _ _ (by omega)])); first | done | rfl | (simp; done))
              have hS2_2 : S2 0 2 = S62c 0 2 := by rw [hS2]; first | rfl | (simp [zsr, zsd, zset]; done) | ((repeat rw [zset_ne _ _ (by omega)]); first | done | rfl | (simp [zsr, zsd, zset]; done)) | (unfold zsd; (repeat (first | rw [zset_self] | rw [zset_ne _ _ (by omega)])); first | done | rfl | (simp; done))
              have hS2_3 : S2 0 3 = z62 := by rw [hS2]; first | rfl | (simp [zsr, zsd, zset]; done) | ((repeat rw [zset_ne _ _ (by omega)]); first | done | rfl | (simp [zsr, zsd, zset]; done)) | (unfold zsd; (repeat (first | rw [zset_self] | rw [zset_ne _ _ (by omega)])); first | done | rfl | (simp; done))
              have hS2_4 : S2 0 4 = S62c 0 4 := by rw [hS2]; first | rfl | (simp [zsr, zsd, zset]; done) | ((repeat rw [zset_ne _ _ (by omega)]); first | done | rfl | (simp [zsr, zsd, zset]; done)) | (unfold zsd; (repeat (first | rw [zset_self] | rw [zset_ne _ _ (by omega)])); first | done | rfl | (simp; done))
              skip
              refine z_calli hW (va_runV (C := RX3) (As := [.int (zI 59)]) (rest := []) CX.fix (c_expect l (f := f) r n T S2 59 hT (by omega) (by omega)) (cwV 1 CX.fix.2.2.2.2 gX3_readField_X3_expect rfl rfl rfl (by decide +kernel) ⟨Nat.le_of_ble_eq_true rfl, Nat.le_of_ble_eq_true rfl⟩) (z_preV CX hW (r := (RX3, TX3, 13)) zRO_0 rfl) rfl rfl hl.1 rfl (lv_room (Nat.le_of_ble_eq_true rfl)) dX3_readField_96 ⟨Nat.zero_le _, Nat.zero_le _⟩) (fun zv gn H locs hok96 hW => ?_)
              obtain ⟨hz96, hg96⟩ := hok96
              obtain ⟨z96, ezv96⟩ : ∃ q, q = zv := ⟨_, rfl⟩
              rw [← ezv96] at hz96 ⊢
              clear ezv96
              rw [hg96] at hW
              clear hg96
              obtain ⟨S96c, hS96c⟩ : ∃ q : Nat → Nat → Int, q = (zxp n T 59 S2).2 := ⟨_, rfl⟩
              rw [← hS96c] at hW
              have hS96c_3 : S96c 0 3 = S2 0 3 := by rw [hS96c]; first | rfl | (simp [zsr, zsd, zset]; done) | (exact zxp_num n T 59 S2 (by decide))
              have hS96c_4 : S96c 0 4 = S2 0 4 := by rw [hS96c]; first | rfl | (simp [zsr, zsd, zset]; done) | (exact zxp_num n T 59 S2 (by decide))
              have hb96 : z96 = 0 ∨ z96 = 1 := by rw [hz96]; exact zxp_01 n T 59 S2
              have htr96 := zxp_rng (T := T) (sg := 59) (show 0 ≤ S2 0 0 ∧ S2 0 0 ≤ n by omega) (by omega)
              rw [← hS96c] at htr96
              rw [← hQ]
              refine z_iret (z := z96) CX hW ?_ (zI_bool hb96) dX3_readField_99
              have hpm : ¬ zprm z62 = 0 := by rw [hkz, zprF_s _ (by omega), if_pos c_82]; decide
              have hq : zrfd n T S = zxp n T 59 S2 := by unfold zrfd zrfd0; rw [← hS1, if_pos c_21, ← hS35c]; unfold zrfd1; rw [if_neg (by omega)]; unfold zrfd2; rw [← hz62, if_neg hpm, ← hS62c, hS2]
              rw [hq]
              exact ⟨hz96, by rw [hS96c]⟩
      exact hL68 _ 0 ⟨by omega, by omega, rfl⟩ (Nat.lt_succ_self _) H locs ls hW (lv_sub hl [0, 1, 2, 3] rfl)
    ·
      refine lv_aload_n hX0 hB0 dX3_readField_54 rfl (lv_at hl 1 rfl) ?_
      refine lv_iconst (v := zI 1) hX0 hB0 dX3_readField_55 rfl ?_
      refine lv_iload_n hX0 hB0 dX3_readField_56 rfl (lv_at hl 0 rfl) ?_
      refine z_calli hW (va_runV (C := RX3) (As := [.int (zI 1), .int (zI (S35c 0 0))]) (rest := []) CX.fix (c_fail l (f := f) r n T S35c 1 (S35c 0 0) hT (by constructor <;> omega) (by constructor <;> omega)) (cwV 2 CX.fix.2.2.2.2 gX3_readField_X3_fail rfl rfl rfl (by decide +kernel) ⟨Nat.le_of_ble_eq_true rfl, Nat.le_of_ble_eq_true rfl⟩) (z_preV CX hW (r := (RX3, TX3, 13)) zRO_0 rfl) rfl rfl hl.1 rfl (lv_room (Nat.le_of_ble_eq_true rfl)) dX3_readField_57 ⟨Nat.zero_le _, Nat.zero_le _⟩) (fun zv gn H locs hok57 hW => ?_)
      obtain ⟨hz57, hg57⟩ := hok57
      obtain ⟨z57, ezv57⟩ : ∃ q, q = zv := ⟨_, rfl⟩
      rw [← ezv57] at hz57 ⊢
      clear ezv57
      rw [hg57] at hW
      clear hg57
      obtain ⟨S57c, hS57c⟩ : ∃ q : Nat → Nat → Int, q = zfl 1 (S35c 0 0) S35c := ⟨_, rfl⟩
      rw [← hS57c] at hW
      have hS57c_0 : S57c 0 0 = S35c 0 0 := by rw [hS57c]; first | rfl | (simp [zsr, zsd, zset]; done) | ((repeat rw [zset_ne _ _ (by omega)]); first | done | rfl | (simp [zsr, zsd, zset]; done)) | (unfold zsd; (repeat (first | rw [zset_self] | rw [zset_ne _ _ (by omega)])); first | done | rfl | (simp; done))
      have hS57c_1 : S57c 0 1 = 1 := by rw [hS57c]; first | rfl | (simp [zsr, zsd, zset]; done) | ((repeat rw [zset_ne _ _ (by omega)]); first | done | rfl | (simp [zsr, zsd, zset]; done)) | (unfold zsd; (repeat (first | rw [zset_self] | rw [zset_ne _ _ (by omega)])); first | done | rfl | (simp; done))
      have hS57c_2 : S57c 0 2 = S35c 0 0 := by rw [hS57c]; first | rfl | (simp [zsr, zsd, zset]; done) | ((repeat rw [zset_ne _ _ (by omega)]); first | done | rfl | (simp [zsr, zsd, zset]; done)) | (unfold zsd; (repeat (first | rw [zset_self] | rw [zset_ne _ _ (by omega)])); first | done | rfl | (simp; done))
      have hS57c_3 : S57c 0 3 = S35c 0 3 := by rw [hS57c]; first | rfl | (simp [zsr, zsd, zset]; done) | ((repeat rw [zset_ne _ _ (by omega)]); first | done | rfl | (simp [zsr, zsd, zset]; done)) | (unfold zsd; (repeat (first | rw [zset_self] | rw [zset_ne _ _ (by omega)])); first | done | rfl | (simp; done))
      have hS57c_4 : S57c 0 4 = S35c 0 4 := by rw [hS57c]; first | rfl | (simp [zsr, zsd, zset]; done) | ((repeat rw [zset_ne _ _ (by omega)]); first | done | rfl | (simp [zsr, zsd, zset]; done)) | (unfold zsd; (repeat (first | rw [zset_self] | rw [zset_ne _ _ (by omega)])); first | done | rfl | (simp; done))
      rw [← hQ]
      refine z_iret (z := z57) CX hW ?_ (zI_bool (by omega)) dX3_readField_60
      have hq : zrfd n T S = (0, S57c) := by unfold zrfd zrfd0; rw [← hS1, if_pos c_21, ← hS35c]; unfold zrfd1; rw [if_pos (by omega), ← hS57c]
      rw [hq]
      exact ⟨hz57, rfl⟩
  ·
    rw [← hS1_0] at c_21
    refine lv_aload_n hX0 hB0 dX3_readField_24 rfl (lv_at hl 0 rfl) ?_
    refine lv_iconst (v := zI 1) hX0 hB0 dX3_readField_25 rfl ?_
    refine lv_aload_n hX0 hB0 dX3_readField_26 rfl (lv_at hl 0 rfl) ?_
    refine z_get (Cn := RX3) (T := TX3) (N := 13) CX hW (v := .int (zI (S1 0 0))) zRO_0 rfl (fun w h => List.mem_cons_of_mem _ (List.mem_append_left _ (List.mem_append_right _ h))) 12 (by decide) (List.mem_of_getElem? (i := 1) rfl) rfl rfl dX3_readField_27 ?_
    refine z_calli hW (va_runV (C := RX3) (As := [.int (zI 1), .int (zI (S1 0 0))]) (rest := []) CX.fix (c_fail l (f := f) r n T S1 1 (S1 0 0) hT (by constructor <;> omega) (by constructor <;> omega)) (cwV 2 CX.fix.2.2.2.2 gX3_readField_X3_fail rfl rfl rfl (by decide +kernel) ⟨Nat.le_of_ble_eq_true rfl, Nat.le_of_ble_eq_true rfl⟩) (z_preV CX hW (r := (RX3, TX3, 13)) zRO_0 rfl) rfl rfl hl.1 rfl (lv_room (Nat.le_of_ble_eq_true rfl)) dX3_readField_30 ⟨Nat.zero_le _, Nat.zero_le _⟩) (fun zv gn H locs hok30 hW => ?_)
    obtain ⟨hz30, hg30⟩ := hok30
    obtain ⟨z30, ezv30⟩ : ∃ q, q = zv := ⟨_, rfl⟩
    rw [← ezv30] at hz30 ⊢
    clear ezv30
    rw [hg30] at hW
    clear hg30
    obtain ⟨S30c, hS30c⟩ : ∃ q : Nat → Nat → Int, q = zfl 1 (S1 0 0) S1 := ⟨_, rfl⟩
    rw [← hS30c] at hW
    have hS30c_0 : S30c 0 0 = S1 0 0 := by rw [hS30c]; first | rfl | (simp [zsr, zsd, zset]; done) | ((repeat rw [zset_ne _ _ (by omega)]); first | done | rfl | (simp [zsr, zsd, zset]; done)) | (unfold zsd; (repeat (first | rw [zset_self] | rw [zset_ne _ _ (by omega)])); first | done | rfl | (simp; done))
    have hS30c_1 : S30c 0 1 = 1 := by rw [hS30c]; first | rfl | (simp [zsr, zsd, zset]; done) | ((repeat rw [zset_ne _ _ (by omega)]); first | done | rfl | (simp [zsr, zsd, zset]; done)) | (unfold zsd; (repeat (first | rw [zset_self] | rw [zset_ne _ _ (by omega)])); first | done | rfl | (simp; done))
    have hS30c_2 : S30c 0 2 = S1 0 0 := by rw [hS30c]; first | rfl | (simp [zsr, zsd, zset]; done) | ((repeat rw [zset_ne _ _ (by omega)]); first | done | rfl | (simp [zsr, zsd, zset]; done)) | (unfold zsd; (repeat (first | rw [zset_self] | rw [zset_ne _ _ (by omega)])); first | done | rfl | (simp; done))
    have hS30c_3 : S30c 0 3 = S1 0 3 := by rw [hS30c]; first | rfl | (simp [zsr, zsd, zset]; done) | ((repeat rw [zset_ne _ _ (by omega)]); first | done | rfl | (simp [zsr, zsd, zset]; done)) | (unfold zsd; (repeat (first | rw [zset_self] | rw [zset_ne _ _ (by omega)])); first | done | rfl | (simp; done))
    have hS30c_4 : S30c 0 4 = S1 0 4 := by rw [hS30c]; first | rfl | (simp [zsr, zsd, zset]; done) | ((repeat rw [zset_ne _ _ (by omega)]); first | done | rfl | (simp [zsr, zsd, zset]; done)) | (unfold zsd; (repeat (first | rw [zset_self] | rw [zset_ne _ _ (by omega)])); first | done | rfl | (simp; done))
    rw [← hQ]
    refine z_iret (z := z30) CX hW ?_ (zI_bool (by omega)) dX3_readField_33
    have hq : zrfd n T S = (0, S30c) := by unfold zrfd zrfd0; rw [← hS1, if_neg c_21, ← hS30c]
    rw [hq]
    exact ⟨hz30, rfl⟩
set_option maxRecDepth 100000 in
set_option maxHeartbeats 4000000 in
/-- Reader.readText -/
theorem c_readText (l : Launch) {D : va_G} {cI cJ cZ cP cS cM : ClassId} {L : List Nat} {sz : Nat} {f : Nat → va_E} (r : Nat) (n : Int) (T : Nat → Int) (S : Nat → Nat → Int) (hT : ztape n T) (hi0 : zrI0 S) : zMi l yX3_readText wsX3_readText 8 173 D (zT cI cJ cZ cP cS cM) L sz (zRO cI cP cZ r n T S f) [.ref r] (fun z g => z = (zrt n T S).1 ∧ g = zRO cI cP cZ r n T (zrt n T S).2 f) := by
  refine zWalk.met (nL := 2) (ret := (some .boolean)) (cc := cX3_readText) (by decide) rfl (Nat.le_of_ble_eq_true rfl) ?_
  intro pg en st mi ag bl mt cd ls CX hW hl
  have CX : zC pg st mi ag mt cd cX3_readText 2 (some .boolean) RX3 wsX3_readText := CX
  generalize hQ : MQ bl _ ag st 0 0 _ = Q
  have hX0 := CX.1
  have hB0 := CX.2.1
  have hl : lv_has ls 2 [(0, .ref r)] := hl
  obtain ⟨H, eH⟩ : ∃ H, H = st.heap := ⟨_, rfl⟩
  obtain ⟨locs, eL⟩ : ∃ L : List Loc, L = [] := ⟨_, rfl⟩
  have hW : zW D (zT cI cJ cZ cP cS cM) L (zQ L sz) st (zRO cI cP cZ r n T S f) st.heap H locs := by rw [eH, eL]; exact hW
  suffices hgo : W pg l en ({ frames := 8, cells := 0, slots := 0, locals := 173 } : Room) st mi ag bl mt cd H locs 0 0 Q (F0 mi 0 ls []) by rw [eH, eL] at hgo; exact hgo
  clear eH eL
  have hn0 := hT.1
  have hn1 := hT.2.1
  refine lv_aload_n hX0 hB0 dX3_readText_0 rfl (lv_at hl 0 rfl) ?_
  refine lv_iconst (v := zI 0) hX0 hB0 dX3_readText_1 rfl ?_
  refine z_put (Cn := RX3) (T := TX3) (N := 13) CX hW (v := .int (zI 0)) zRO_0 rfl (fun w h => List.mem_cons_of_mem _ (List.mem_append_left _ (List.mem_append_left _ (List.mem_append_left _ (List.mem_append_right _ h))))) tyX3 tyX3_ok nmX3 1 (by decide) (List.mem_of_getElem? (i := 1) rfl) rfl rfl rfl rfl (Nat.le_of_ble_eq_true rfl) (g := va_up (zRO cI cP cZ r n T S f) r (.inr (3, [.int (zI n), .int (zI 0), .int (zI (S 0 2)), .ref (r + 1), .ref (r + 16), .ref (r + 17), .ref (r + 18), .ref (r + 19), .ref (r + 20), .ref (r + 21), .ref (r + 23), .ref (r + 25), .int (zI (S 0 0))]))) rfl dX3_readText_2 (fun H locs hW => ?_)
  refine lv_aload_n hX0 hB0 dX3_readText_5 rfl (lv_at hl 0 rfl) ?_
  refine lv_iconst (v := zI (-1)) hX0 hB0 dX3_readText_6 rfl ?_
  refine z_put (Cn := RX3) (T := TX3) (N := 13) CX hW (v := .int (zI (-1))) (va_up_self _ _ _) rfl (fun w h => List.mem_cons_of_mem _ (List.mem_append_left _ (List.mem_append_left _ (List.mem_append_left _ (List.mem_append_right _ h))))) tyX3 tyX3_ok nmX3 2 (by decide) (List.mem_of_getElem? (i := 2) rfl) rfl rfl rfl rfl (Nat.le_of_ble_eq_true rfl) (g := va_up (zRO cI cP cZ r n T S f) r (.inr (3, [.int (zI n), .int (zI 0), .int (zI (-1)), .ref (r + 1), .ref (r + 16), .ref (r + 17), .ref (r + 18), .ref (r + 19), .ref (r + 20), .ref (r + 21), .ref (r + 23), .ref (r + 25), .int (zI (S 0 0))]))) va_up_up dX3_readText_7 (fun H locs hW => ?_)
  refine lv_aload_n hX0 hB0 dX3_readText_10 rfl (lv_at hl 0 rfl) ?_
  refine lv_iconst (v := zI 0) hX0 hB0 dX3_readText_11 rfl ?_
  refine z_put (Cn := RX3) (T := TX3) (N := 13) CX hW (v := .int (zI 0)) (va_up_self _ _ _) rfl (fun w h => List.mem_cons_of_mem _ (List.mem_append_left _ (List.mem_append_left _ (List.mem_append_left _ (List.mem_append_right _ h))))) tyX3 tyX3_ok nmX3 12 (by decide) (List.mem_of_getElem? (i := 3) rfl) rfl rfl rfl rfl (Nat.le_of_ble_eq_true rfl) (g := va_up (zRO cI cP cZ r n T S f) r (.inr (3, [.int (zI n), .int (zI 0), .int (zI (-1)), .ref (r + 1), .ref (r + 16), .ref (r + 17), .ref (r + 18), .ref (r + 19), .ref (r + 20), .ref (r + 21), .ref (r + 23), .ref (r + 25), .int (zI 0)]))) va_up_up dX3_readText_12 (fun H locs hW => ?_)
  refine lv_aload_n hX0 hB0 dX3_readText_15 rfl (lv_at hl 0 rfl) ?_
  refine z_get (Cn := RX3) (T := TX3) (N := 13) CX hW (v := .ref (r + 1)) (va_up_self _ _ _) rfl (fun w h => List.mem_cons_of_mem _ (List.mem_append_left _ (List.mem_append_left _ (List.mem_append_left _ (List.mem_append_right _ h))))) 3 (by decide) (List.mem_of_getElem? (i := 4) rfl) rfl rfl dX3_readText_16 ?_
  refine lv_bipush (v := zI 7) hX0 hB0 dX3_readText_19 (by decide) ?_
  refine z_put (Cn := RX7) (T := TX7) (N := 4) CX hW (v := .int (zI 7)) ((va_up_ne _ _ (by omega)).trans zRO_1) rfl (fun w h => List.mem_cons_of_mem _ (List.mem_append_left _ (List.mem_append_left _ (List.mem_append_right _ h)))) tyX7 tyX7_ok nmX7 0 (by decide) (List.mem_of_getElem? (i := 5) rfl) rfl rfl rfl rfl (Nat.le_of_ble_eq_true rfl) (g := va_up (va_up (zRO cI cP cZ r n T S f) r (.inr (3, [.int (zI n), .int (zI 0), .int (zI (-1)), .ref (r + 1), .ref (r + 16), .ref (r + 17), .ref (r + 18), .ref (r + 19), .ref (r + 20), .ref (r + 21), .ref (r + 23), .ref (r + 25), .int (zI 0)]))) (r + 1) (.inr (7, [.int (zI 7), .int (zI (S 0 4)), .ref (r + 2), .ref (r + 3)]))) rfl dX3_readText_21 (fun H locs hW => ?_)
  refine lv_aload_n hX0 hB0 dX3_readText_24 rfl (lv_at hl 0 rfl) ?_
  refine z_get (Cn := RX3) (T := TX3) (N := 13) CX hW (v := .ref (r + 1)) ((va_up_ne _ _ (by omega)).trans (va_up_self _ _ _)) rfl (fun w h => List.mem_cons_of_mem _ (List.mem_append_left _ (List.mem_append_left _ (List.mem_append_left _ (List.mem_append_right _ h))))) 3 (by decide) (List.mem_of_getElem? (i := 4) rfl) rfl rfl dX3_readText_25 ?_
  refine lv_iconst (v := zI 0) hX0 hB0 dX3_readText_28 rfl ?_
  refine z_put (Cn := RX7) (T := TX7) (N := 4) CX hW (v := .int (zI 0)) (va_up_self _ _ _) rfl (fun w h => List.mem_cons_of_mem _ (List.mem_append_left _ (List.mem_append_left _ (List.mem_append_right _ h)))) tyX7 tyX7_ok nmX7 1 (by decide) (List.mem_of_getElem? (i := 6) rfl) rfl rfl rfl rfl (Nat.le_of_ble_eq_true rfl) (g := va_up (va_up (zRO cI cP cZ r n T S f) r (.inr (3, [.int (zI n), .int (zI 0), .int (zI (-1)), .ref (r + 1), .ref (r + 16), .ref (r + 17), .ref (r + 18), .ref (r + 19), .ref (r + 20), .ref (r + 21), .ref (r + 23), .ref (r + 25), .int (zI 0)]))) (r + 1) (.inr (7, [.int (zI 7), .int (zI 0), .ref (r + 2), .ref (r + 3)]))) va_up_up dX3_readText_29 (fun H locs hW => ?_)
  refine lv_aload_n hX0 hB0 dX3_readText_32 rfl (lv_at hl 0 rfl) ?_
  have hW := hW
  rw [zRO_wr] at hW
  rw [zRO_wdd] at hW
  obtain ⟨S1, hS1⟩ : ∃ q : Nat → Nat → Int, q = zsd (zsr S 0 0 (-1)) 7 0 := ⟨_, rfl⟩
  rw [← hS1] at hW
  have hS1_0 : S1 0 0 = 0 := by rw [hS1]; first | rfl | (simp [zsr, zsd, zset]; done) | ((repeat rw [zset_ne _ _ (by omega)]); first | done | rfl | (simp [zsr, zsd, zset]; done)) | (unfold zsd; (repeat (first | rw [zset_self] | rw [zset_ne _ _ (by omega)])); first | done | rfl | (simp; done))
  have hS1_1 : S1 0 1 = 0 := by rw [hS1]; first | rfl | (simp [zsr, zsd, zset]; done) | ((repeat rw [zset_ne _ _ (by omega)]); first | done | rfl | (simp [zsr, zsd, zset]; done)) | (unfold zsd; (repeat (first | rw [zset_self] | rw [zset_ne _ _ (by omega)])); first | done | rfl | (simp; done))
  have hS1_2 : S1 0 2 = -1 := by rw [hS1]; first | rfl | (simp [zsr, zsd, zset]; done) | ((repeat rw [zset_ne _ _ (by omega)]); first | done | rfl | (simp [zsr, zsd, zset]; done)) | (unfold zsd; (repeat (first | rw [zset_self] | rw [zset_ne _ _ (by omega)])); first | done | rfl | (simp; done))
  have hS1_3 : S1 0 3 = 7 := by rw [hS1]; first | rfl | (simp [zsr, zsd, zset]; done) | ((repeat rw [zset_ne _ _ (by omega)]); first | done | rfl | (simp [zsr, zsd, zset]; done)) | (unfold zsd; (repeat (first | rw [zset_self] | rw [zset_ne _ _ (by omega)])); first | done | rfl | (simp; done))
  have hS1_4 : S1 0 4 = 0 := by rw [hS1]; first | rfl | (simp [zsr, zsd, zset]; done) | ((repeat rw [zset_ne _ _ (by omega)]); first | done | rfl | (simp [zsr, zsd, zset]; done)) | (unfold zsd; (repeat (first | rw [zset_self] | rw [zset_ne _ _ (by omega)])); first | done | rfl | (simp; done))
  skip
  refine z_callv hW (va_runV (C := RX3) (As := []) (rest := []) CX.fix (c_skipBlanks l (f := f) r n T S1 hT (by omega)) (cwV 0 CX.fix.2.2.2.2 gX3_readText_X3_skipBlanks rfl rfl rfl (by decide +kernel) ⟨Nat.le_of_ble_eq_true rfl, Nat.le_of_ble_eq_true rfl⟩) (z_preV CX hW (r := (RX3, TX3, 13)) zRO_0 rfl) rfl rfl hl.1 rfl (lv_room (Nat.le_of_ble_eq_true rfl)) dX3_readText_33 ⟨Nat.zero_le _, Nat.zero_le _⟩) (fun gn H locs hok33 hW => ?_)
  have hg33 := hok33
  rw [hg33] at hW
  clear hg33
  obtain ⟨S33c, hS33c⟩ : ∃ q : Nat → Nat → Int, q = zskS n T S1 := ⟨_, rfl⟩
  rw [← hS33c] at hW
  have hS33c_0 : S33c 0 0 = zsk n T (S1 0 0) := by rw [hS33c]; first | rfl | (simp [zsr, zsd, zset]; done) | ((repeat rw [zset_ne _ _ (by omega)]); first | done | rfl | (simp [zsr, zsd, zset]; done)) | (unfold zsd; (repeat (first | rw [zset_self] | rw [zset_ne _ _ (by omega)])); first | done | rfl | (simp; done))
  have hS33c_1 : S33c 0 1 = S1 0 1 := by rw [hS33c]; first | rfl | (simp [zsr, zsd, zset]; done) | ((repeat rw [zset_ne _ _ (by omega)]); first | done | rfl | (simp [zsr, zsd, zset]; done)) | (unfold zsd; (repeat (first | rw [zset_self] | rw [zset_ne _ _ (by omega)])); first | done | rfl | (simp; done))
  have hS33c_2 : S33c 0 2 = S1 0 2 := by rw [hS33c]; first | rfl | (simp [zsr, zsd, zset]; done) | ((repeat rw [zset_ne _ _ (by omega)]); first | done | rfl | (simp [zsr, zsd, zset]; done)) | (unfold zsd; (repeat (first | rw [zset_self] | rw [zset_ne _ _ (by omega)])); first | done | rfl | (simp; done))
  have hS33c_3 : S33c 0 3 = S1 0 3 := by rw [hS33c]; first | rfl | (simp [zsr, zsd, zset]; done) | ((repeat rw [zset_ne _ _ (by omega)]); first | done | rfl | (simp [zsr, zsd, zset]; done)) | (unfold zsd; (repeat (first | rw [zset_self] | rw [zset_ne _ _ (by omega)])); first | done | rfl | (simp; done))
  have hS33c_4 : S33c 0 4 = S1 0 4 := by rw [hS33c]; first | rfl | (simp [zsr, zsd, zset]; done) | ((repeat rw [zset_ne _ _ (by omega)]); first | done | rfl | (simp [zsr, zsd, zset]; done)) | (unfold zsd; (repeat (first | rw [zset_self] | rw [zset_ne _ _ (by omega)])); first | done | rfl | (simp; done))
  have hskr33 := zsk_rng (T := T) (show 0 ≤ S1 0 0 ∧ S1 0 0 ≤ n by omega)
  have hc33 : zcI n S33c := by rw [hS33c, hS1]; exact (zcI.start hi0 hn0).sk
  have hp33 := hc33.1
  refine lv_aload_n hX0 hB0 dX3_readText_36 rfl (lv_at hl 0 rfl) ?_
  refine z_ldcs CX hW 0 (by decide) rfl dX3_readText_37 ?_
  refine z_calli hW (va_runV (C := RX3) (As := [.ref (D.2 98 0)]) (rest := []) CX.fix (c_standsWord l (f := f) r n T S33c 0 hT (by omega) (by decide)) (cwV 1 CX.fix.2.2.2.2 gX3_readText_X3_standsWord rfl rfl rfl (by decide +kernel) ⟨Nat.le_of_ble_eq_true rfl, Nat.le_of_ble_eq_true rfl⟩) (z_preV CX hW (r := (RX3, TX3, 13)) zRO_0 rfl) rfl rfl hl.1 rfl (lv_room (Nat.le_of_ble_eq_true rfl)) dX3_readText_39 ⟨Nat.zero_le _, Nat.zero_le _⟩) (fun zv gn H locs hok39 hW => ?_)
  obtain ⟨ez, eg⟩ := hok39
  have eg : gn = zRO cI cP cZ r n T S33c f := eg
  rw [eg] at hW
  clear eg
  have ez : zv = zwd n T 0 (S33c 0 0) := ez
  rw [ez]
  clear ez
  have hwd39 := zwd_01 n T 0 (S33c 0 0)
  refine z_if_eq (tgt := 54) CX dX3_readText_42 (by decide) (by constructor <;> omega) (fun c_42 => ?_) (fun c_42 => ?_)
  ·
    refine lv_iconst (v := zI 0) hX0 hB0 dX3_readText_54 rfl ?_
    refine lv_istore_n (lv' := [(1, .int (zI 0)), (0, .ref r)]) hX0 hB0 dX3_readText_55 rfl hl (by decide) rfl (fun ls hl => ?_)
    have hL56 : ∀ (fu : Nat) (Sa : Nat → Nat → Int) (k : Int), (0 ≤ k ∧ k ≤ n + 1 ∧ zcI n Sa ∧ zrt n T S = zrtF n T (n + 1 - k).toNat Sa) → (n + 1 - k).toNat < fu → ∀ (H : Heap) (locs : List Loc) (ls : Array Slot), zW D (zT cI cJ cZ cP cS cM) L (zQ L sz) st (zRO cI cP cZ r n T Sa f) st.heap H locs → lv_has ls 2 [(1, .int (zI k)), (0, .ref r)] → W pg l en ({ frames := 8, cells := 0, slots := 0, locals := 173 } : Room) st mi ag bl mt cd H locs 0 0 Q (F0 mi 56 ls []) := by
      intro fu
      induction fu with
      | zero => intro Sa k _ hfu; exact absurd hfu (Nat.not_lt_zero _)
      | succ fu ih56 =>
        intro Sa k hinv56 hfu56 H locs ls hW hl
        obtain ⟨hk0, hk1, hca, hkz⟩ := hinv56
        have hpa := hca.1
        refine lv_iload_n hX0 hB0 dX3_readText_56 rfl (lv_at hl 0 rfl) ?_
        refine lv_aload_n hX0 hB0 dX3_readText_57 rfl (lv_at hl 1 rfl) ?_
        refine z_get (Cn := RX3) (T := TX3) (N := 13) CX hW (v := .int (zI n)) zRO_0 rfl (fun w h => List.mem_cons_of_mem _ (List.mem_append_left _ (List.mem_append_left _ (List.mem_append_left _ (List.mem_append_right _ h))))) 0 (by decide) (List.mem_of_getElem? (i := 7) rfl) rfl rfl dX3_readText_58 ?_
        refine z_icmp_gt (tgt := 96) CX dX3_readText_61 (by decide) (by constructor <;> omega) (by constructor <;> omega) (fun c_61 => ?_) (fun c_61 => ?_)
        ·
          refine lv_iconst (v := zI 1) hX0 hB0 dX3_readText_96 rfl ?_
          rw [← hQ]
          refine z_iret (z := 1) CX hW ?_ rfl dX3_readText_97
          have hq : zrt n T S = (1, Sa) := by rw [hkz, show (n + 1 - k).toNat = 0 by omega]; rfl
          rw [hq]
          exact ⟨rfl, rfl⟩
        ·
          refine lv_aload_n hX0 hB0 dX3_readText_64 rfl (lv_at hl 1 rfl) ?_
          refine z_callv hW (va_runV (C := RX3) (As := []) (rest := []) CX.fix (c_skipBlanks l (f := f) r n T Sa hT (by omega)) (cwV 0 CX.fix.2.2.2.2 gX3_readText_X3_skipBlanks rfl rfl rfl (by decide +kernel) ⟨Nat.le_of_ble_eq_true rfl, Nat.le_of_ble_eq_true rfl⟩) (z_preV CX hW (r := (RX3, TX3, 13)) zRO_0 rfl) rfl rfl hl.1 rfl (lv_room (Nat.le_of_ble_eq_true rfl)) dX3_readText_65 ⟨Nat.zero_le _, Nat.zero_le _⟩) (fun gn H locs hok65 hW => ?_)
          have hg65 := hok65
          rw [hg65] at hW
          clear hg65
          obtain ⟨S65c, hS65c⟩ : ∃ q : Nat → Nat → Int, q = zskS n T Sa := ⟨_, rfl⟩
          rw [← hS65c] at hW
          have hS65c_0 : S65c 0 0 = zsk n T (Sa 0 0) := by rw [hS65c]; first | rfl | (simp [zsr, zsd, zset]; done) | ((repeat rw [zset_ne _ _ (by omega)]); first | done | rfl | (simp [zsr, zsd, zset]; done)) | (unfold zsd; (repeat (first | rw [zset_self] | rw [zset_ne _ _ (by omega)])); first | done | rfl | (simp; done))
          have hS65c_1 : S65c 0 1 = Sa 0 1 := by rw [hS65c]; first | rfl | (simp [zsr, zsd, zset]; done) | ((repeat rw [zset_ne _ _ (by omega)]); first | done | rfl | (simp [zsr, zsd, zset]; done)) | (unfold zsd; (repeat (first | rw [zset_self] | rw [zset_ne _ _ (by omega)])); first | done | rfl | (simp; done))
          have hS65c_2 : S65c 0 2 = Sa 0 2 := by rw [hS65c]; first | rfl | (simp [zsr, zsd, zset]; done) | ((repeat rw [zset_ne _ _ (by omega)]); first | done | rfl | (simp [zsr, zsd, zset]; done)) | (unfold zsd; (repeat (first | rw [zset_self] | rw [zset_ne _ _ (by omega)])); first | done | rfl | (simp; done))
          have hS65c_3 : S65c 0 3 = Sa 0 3 := by rw [hS65c]; first | rfl | (simp [zsr, zsd, zset]; done) | ((repeat rw [zset_ne _ _ (by omega)]); first | done | rfl | (simp [zsr, zsd, zset]; done)) | (unfold zsd; (repeat (first | rw [zset_self] | rw [zset_ne _ _ (by omega)])); first | done | rfl | (simp; done))
          have hS65c_4 : S65c 0 4 = Sa 0 4 := by rw [hS65c]; first | rfl | (simp [zsr, zsd, zset]; done) | ((repeat rw [zset_ne _ _ (by omega)]); first | done | rfl | (simp [zsr, zsd, zset]; done)) | (unfold zsd; (repeat (first | rw [zset_self] | rw [zset_ne _ _ (by omega)])); first | done | rfl | (simp; done))
          have hskr65 := zsk_rng (T := T) (show 0 ≤ Sa 0 0 ∧ Sa 0 0 ≤ n by omega)
          have hcx : zcI n S65c := by rw [hS65c]; exact hca.sk
          have hpx := hcx.1
          have hst : zrt n T S = if n ≤ S65c 0 0 then (1, S65c) else if (zrc n T S65c).1 = 0 then (0, (zrc n T S65c).2) else zrtF n T (n + 1 - (k + 1)).toNat (zrc n T S65c).2 := by rw [hkz, show (n + 1 - k).toNat = (n + 1 - (k + 1)).toNat + 1 by omega, zrtF_s, ← hS65c]
          refine lv_aload_n hX0 hB0 dX3_readText_68 rfl (lv_at hl 1 rfl) ?_
          refine z_get (Cn := RX3) (T := TX3) (N := 13) CX hW (v := .int (zI (S65c 0 0))) zRO_0 rfl (fun w h => List.mem_cons_of_mem _ (List.mem_append_left _ (List.mem_append_left _ (List.mem_append_left _ (List.mem_append_right _ h))))) 12 (by decide) (List.mem_of_getElem? (i := 3) rfl) rfl rfl dX3_readText_69 ?_
          refine lv_aload_n hX0 hB0 dX3_readText_72 rfl (lv_at hl 1 rfl) ?_
          refine z_get (Cn := RX3) (T := TX3) (N := 13) CX hW (v := .int (zI n)) zRO_0 rfl (fun w h => List.mem_cons_of_mem _ (List.mem_append_left _ (List.mem_append_left _ (List.mem_append_left _ (List.mem_append_right _ h))))) 0 (by decide) (List.mem_of_getElem? (i := 7) rfl) rfl rfl dX3_readText_73 ?_
          refine z_icmp_lt (tgt := 81) CX dX3_readText_76 (by decide) (by constructor <;> omega) (by constructor <;> omega) (fun c_76 => ?_) (fun c_76 => ?_)
          ·
            refine lv_aload_n hX0 hB0 dX3_readText_81 rfl (lv_at hl 1 rfl) ?_
            refine z_calli hW (va_runV (C := RX3) (As := []) (rest := []) CX.fix (c_readCurve l (f := f) r n T S65c hT hcx) (cwV 0 CX.fix.2.2.2.2 gX3_readText_X3_readCurve rfl rfl rfl (by decide +kernel) ⟨Nat.le_of_ble_eq_true rfl, Nat.le_of_ble_eq_true rfl⟩) (z_preV CX hW (r := (RX3, TX3, 13)) zRO_0 rfl) rfl rfl hl.1 rfl (lv_room (Nat.le_of_ble_eq_true rfl)) dX3_readText_82 ⟨Nat.zero_le _, Nat.zero_le _⟩) (fun zv gn H locs hok82 hW => ?_)
            obtain ⟨hz82, hg82⟩ := hok82
            obtain ⟨z82, ezv82⟩ : ∃ q, q = zv := ⟨_, rfl⟩
            rw [← ezv82] at hz82 ⊢
            clear ezv82
            rw [hg82] at hW
            clear hg82
            obtain ⟨S82c, hS82c⟩ : ∃ q : Nat → Nat → Int, q = (zrc n T S65c).2 := ⟨_, rfl⟩
            rw [← hS82c] at hW
            have hb82 : z82 = 0 ∨ z82 = 1 := by rw [hz82]; exact zrc_01 n T S65c
            have hcy : zcI n S82c := by rw [hS82c]; exact hcx.rc ⟨hn0, hn1⟩
            refine z_if_ne (tgt := 90) CX dX3_readText_85 (by decide) (by constructor <;> omega) (fun c_85 => ?_) (fun c_85 => ?_)
            ·
              refine lv_iinc (v := zI (k + 1)) (lv' := [(1, .int (zI (k + 1))), (0, .ref r)]) hX0 hB0 dX3_readText_90 hl (k := 0) rfl (zI_add _ _) (by decide) rfl (fun ls hl => ?_)
              refine lv_goto (tgt := 56) hX0 hB0 dX3_readText_93 (by decide) ?_
              exact ih56 S82c (k + 1) ⟨by omega, by omega, hcy, by rw [hst, if_neg (by omega), ← hz82, if_neg (by omega), ← hS82c]⟩ (by omega) H locs ls hW (lv_sub hl [0, 1] rfl)
            ·
              refine lv_iconst (v := zI 0) hX0 hB0 dX3_readText_88 rfl ?_
              rw [← hQ]
              refine z_iret (z := 0) CX hW ?_ rfl dX3_readText_89
              have hq : zrt n T S = (0, S82c) := by rw [hst, if_neg (by omega), ← hz82, if_pos (by omega), ← hS82c]
              rw [hq]
              exact ⟨rfl, rfl⟩
          ·
            refine lv_iconst (v := zI 1) hX0 hB0 dX3_readText_79 rfl ?_
            rw [← hQ]
            refine z_iret (z := 1) CX hW ?_ rfl dX3_readText_80
            have hq : zrt n T S = (1, S65c) := by rw [hst, if_pos (by omega)]
            rw [hq]
            exact ⟨rfl, rfl⟩
    exact hL56 _ S33c 0 ⟨by omega, by omega, hc33, by unfold zrt; rw [← hS1, ← hS33c]; unfold zrt1; rw [if_pos c_42]⟩ (Nat.lt_succ_self _) H locs ls hW (lv_sub hl [0, 1] rfl)
  ·
    have hwp := zwd_pl (by decide) hc33.1 c_42
    have e5 : zlen 0 = 5 := rfl
    refine lv_aload_n hX0 hB0 dX3_readText_45 rfl (lv_at hl 0 rfl) ?_
    refine z_calli hW (va_runV (C := RX3) (As := []) (rest := []) CX.fix (c_readField l (f := f) r n T S33c hT hc33 (by omega) (by omega)) (cwV 0 CX.fix.2.2.2.2 gX3_readText_X3_readField rfl rfl rfl (by decide +kernel) ⟨Nat.le_of_ble_eq_true rfl, Nat.le_of_ble_eq_true rfl⟩) (z_preV CX hW (r := (RX3, TX3, 13)) zRO_0 rfl) rfl rfl hl.1 rfl (lv_room (Nat.le_of_ble_eq_true rfl)) dX3_readText_46 ⟨Nat.zero_le _, Nat.zero_le _⟩) (fun zv gn H locs hok46 hW => ?_)
    obtain ⟨hz46, hg46⟩ := hok46
    obtain ⟨z46, ezv46⟩ : ∃ q, q = zv := ⟨_, rfl⟩
    rw [← ezv46] at hz46 ⊢
    clear ezv46
    rw [hg46] at hW
    clear hg46
    obtain ⟨S46c, hS46c⟩ : ∃ q : Nat → Nat → Int, q = (zrfd n T S33c).2 := ⟨_, rfl⟩
    rw [← hS46c] at hW
    have hb46 : z46 = 0 ∨ z46 = 1 := by rw [hz46]; exact zrfd_01 n T S33c
    have hc46 : zcI n S46c := by rw [hS46c]; exact hc33.fd (by omega) (by omega)
    refine z_if_ne (tgt := 54) CX dX3_readText_49 (by decide) (by constructor <;> omega) (fun c_49 => ?_) (fun c_49 => ?_)
    ·
      refine lv_iconst (v := zI 0) hX0 hB0 dX3_readText_54 rfl ?_
      refine lv_istore_n (lv' := [(1, .int (zI 0)), (0, .ref r)]) hX0 hB0 dX3_readText_55 rfl hl (by decide) rfl (fun ls hl => ?_)
      have hL56 : ∀ (fu : Nat) (Sa : Nat → Nat → Int) (k : Int), (0 ≤ k ∧ k ≤ n + 1 ∧ zcI n Sa ∧ zrt n T S = zrtF n T (n + 1 - k).toNat Sa) → (n + 1 - k).toNat < fu → ∀ (H : Heap) (locs : List Loc) (ls : Array Slot), zW D (zT cI cJ cZ cP cS cM) L (zQ L sz) st (zRO cI cP cZ r n T Sa f) st.heap H locs → lv_has ls 2 [(1, .int (zI k)), (0, .ref r)] → W pg l en ({ frames := 8, cells := 0, slots := 0, locals := 173 } : Room) st mi ag bl mt cd H locs 0 0 Q (F0 mi 56 ls []) := by
        intro fu
        induction fu with
        | zero => intro Sa k _ hfu; exact absurd hfu (Nat.not_lt_zero _)
        | succ fu ih56 =>
          intro Sa k hinv56 hfu56 H locs ls hW hl
          obtain ⟨hk0, hk1, hca, hkz⟩ := hinv56
          have hpa := hca.1
          refine lv_iload_n hX0 hB0 dX3_readText_56 rfl (lv_at hl 0 rfl) ?_
          refine lv_aload_n hX0 hB0 dX3_readText_57 rfl (lv_at hl 1 rfl) ?_
          refine z_get (Cn := RX3) (T := TX3) (N := 13) CX hW (v := .int (zI n)) zRO_0 rfl (fun w h => List.mem_cons_of_mem _ (List.mem_append_left _ (List.mem_append_left _ (List.mem_append_left _ (List.mem_append_right _ h))))) 0 (by decide) (List.mem_of_getElem? (i := 7) rfl) rfl rfl dX3_readText_58 ?_
          refine z_icmp_gt (tgt := 96) CX dX3_readText_61 (by decide) (by constructor <;> omega) (by constructor <;> omega) (fun c_61 => ?_) (fun c_61 => ?_)
          ·
            refine lv_iconst (v := zI 1) hX0 hB0 dX3_readText_96 rfl ?_
            rw [← hQ]
            refine z_iret (z := 1) CX hW ?_ rfl dX3_readText_97
            have hq : zrt n T S = (1, Sa) := by rw [hkz, show (n + 1 - k).toNat = 0 by omega]; rfl
            rw [hq]
            exact ⟨rfl, rfl⟩
          ·
            refine lv_aload_n hX0 hB0 dX3_readText_64 rfl (lv_at hl 1 rfl) ?_
            refine z_callv hW (va_runV (C := RX3) (As := []) (rest := []) CX.fix (c_skipBlanks l (f := f) r n T Sa hT (by omega)) (cwV 0 CX.fix.2.2.2.2 gX3_readText_X3_skipBlanks rfl rfl rfl (by decide +kernel) ⟨Nat.le_of_ble_eq_true rfl, Nat.le_of_ble_eq_true rfl⟩) (z_preV CX hW (r := (RX3, TX3, 13)) zRO_0 rfl) rfl rfl hl.1 rfl (lv_room (Nat.le_of_ble_eq_true rfl)) dX3_readText_65 ⟨Nat.zero_le _, Nat.zero_le _⟩) (fun gn H locs hok65 hW => ?_)
            have hg65 := hok65
            rw [hg65] at hW
            clear hg65
            obtain ⟨S65c, hS65c⟩ : ∃ q : Nat → Nat → Int, q = zskS n T Sa := ⟨_, rfl⟩
            rw [← hS65c] at hW
            have hS65c_0 : S65c 0 0 = zsk n T (Sa 0 0) := by rw [hS65c]; first | rfl | (simp [zsr, zsd, zset]; done) | ((repeat rw [zset_ne _ _ (by omega)]); first | done | rfl | (simp [zsr, zsd, zset]; done)) | (unfold zsd; (repeat (first | rw [zset_self] | rw [zset_ne _ _ (by omega)])); first | done | rfl | (simp; done))
            have hS65c_1 : S65c 0 1 = Sa 0 1 := by rw [hS65c]; first | rfl | (simp [zsr, zsd, zset]; done) | ((repeat rw [zset_ne _ _ (by omega)]); first | done | rfl | (simp [zsr, zsd, zset]; done)) | (unfold zsd; (repeat (first | rw [zset_self] | rw [zset_ne _ _ (by omega)])); first | done | rfl | (simp; done))
            have hS65c_2 : S65c 0 2 = Sa 0 2 := by rw [hS65c]; first | rfl | (simp [zsr, zsd, zset]; done) | ((repeat rw [zset_ne _ _ (by omega)]); first | done | rfl | (simp [zsr, zsd, zset]; done)) | (unfold zsd; (repeat (first | rw [zset_self] | rw [zset_ne _ _ (by omega)])); first | done | rfl | (simp; done))
            have hS65c_3 : S65c 0 3 = Sa 0 3 := by rw [hS65c]; first | rfl | (simp [zsr, zsd, zset]; done) | ((repeat rw [zset_ne _ _ (by omega)]); first | done | rfl | (simp [zsr, zsd, zset]; done)) | (unfold zsd; (repeat (first | rw [zset_self] | rw [zset_ne _ _ (by omega)])); first | done | rfl | (simp; done))
            have hS65c_4 : S65c 0 4 = Sa 0 4 := by rw [hS65c]; first | rfl | (simp [zsr, zsd, zset]; done) | ((repeat rw [zset_ne _ _ (by omega)]); first | done | rfl | (simp [zsr, zsd, zset]; done)) | (unfold zsd; (repeat (first | rw [zset_self] | rw [zset_ne _ _ (by omega)])); first | done | rfl | (simp; done))
            have hskr65 := zsk_rng (T := T) (show 0 ≤ Sa 0 0 ∧ Sa 0 0 ≤ n by omega)
            have hcx : zcI n S65c := by rw [hS65c]; exact hca.sk
            have hpx := hcx.1
            have hst : zrt n T S = if n ≤ S65c 0 0 then (1, S65c) else if (zrc n T S65c).1 = 0 then (0, (zrc n T S65c).2) else zrtF n T (n + 1 - (k + 1)).toNat (zrc n T S65c).2 := by rw [hkz, show (n + 1 - k).toNat = (n + 1 - (k + 1)).toNat + 1 by omega, zrtF_s, ← hS65c]
            refine lv_aload_n hX0 hB0 dX3_readText_68 rfl (lv_at hl 1 rfl) ?_
            refine z_get (Cn := RX3) (T := TX3) (N := 13) CX hW (v := .int (zI (S65c 0 0))) zRO_0 rfl (fun w h => List.mem_cons_of_mem _ (List.mem_append_left _ (List.mem_append_left _ (List.mem_append_left _ (List.mem_append_right _ h))))) 12 (by decide) (List.mem_of_getElem? (i := 3) rfl) rfl rfl dX3_readText_69 ?_
            refine lv_aload_n hX0 hB0 dX3_readText_72 rfl (lv_at hl 1 rfl) ?_
            refine z_get (Cn := RX3) (T := TX3) (N := 13) CX hW (v := .int (zI n)) zRO_0 rfl (fun w h => List.mem_cons_of_mem _ (List.mem_append_left _ (List.mem_append_left _ (List.mem_append_left _ (List.mem_append_right _ h))))) 0 (by decide) (List.mem_of_getElem? (i := 7) rfl) rfl rfl dX3_readText_73 ?_
            refine z_icmp_lt (tgt := 81) CX dX3_readText_76 (by decide) (by constructor <;> omega) (by constructor <;> omega) (fun c_76 => ?_) (fun c_76 => ?_)
            ·
              refine lv_aload_n hX0 hB0 dX3_readText_81 rfl (lv_at hl 1 rfl) ?_
              refine z_calli hW (va_runV (C := RX3) (As := []) (rest := []) CX.fix (c_readCurve l (f := f) r n T S65c hT hcx) (cwV 0 CX.fix.2.2.2.2 gX3_readText_X3_readCurve rfl rfl rfl (by decide +kernel) ⟨Nat.le_of_ble_eq_true rfl, Nat.le_of_ble_eq_true rfl⟩) (z_preV CX hW (r := (RX3, TX3, 13)) zRO_0 rfl) rfl rfl hl.1 rfl (lv_room (Nat.le_of_ble_eq_true rfl)) dX3_readText_82 ⟨Nat.zero_le _, Nat.zero_le _⟩) (fun zv gn H locs hok82 hW => ?_)
              obtain ⟨hz82, hg82⟩ := hok82
              obtain ⟨z82, ezv82⟩ : ∃ q, q = zv := ⟨_, rfl⟩
              rw [← ezv82] at hz82 ⊢
              clear ezv82
              rw [hg82] at hW
              clear hg82
              obtain ⟨S82c, hS82c⟩ : ∃ q : Nat → Nat → Int, q = (zrc n T S65c).2 := ⟨_, rfl⟩
              rw [← hS82c] at hW
              have hb82 : z82 = 0 ∨ z82 = 1 := by rw [hz82]; exact zrc_01 n T S65c
              have hcy : zcI n S82c := by rw [hS82c]; exact hcx.rc ⟨hn0, hn1⟩
              refine z_if_ne (tgt := 90) CX dX3_readText_85 (by decide) (by constructor <;> omega) (fun c_85 => ?_) (fun c_85 => ?_)
              ·
                refine lv_iinc (v := zI (k + 1)) (lv' := [(1, .int (zI (k + 1))), (0, .ref r)]) hX0 hB0 dX3_readText_90 hl (k := 0) rfl (zI_add _ _) (by decide) rfl (fun ls hl => ?_)
                refine lv_goto (tgt := 56) hX0 hB0 dX3_readText_93 (by decide) ?_
                exact ih56 S82c (k + 1) ⟨by omega, by omega, hcy, by rw [hst, if_neg (by omega), ← hz82, if_neg (by omega), ← hS82c]⟩ (by omega) H locs ls hW (lv_sub hl [0, 1] rfl)
              ·
                refine lv_iconst (v := zI 0) hX0 hB0 dX3_readText_88 rfl ?_
                rw [← hQ]
                refine z_iret (z := 0) CX hW ?_ rfl dX3_readText_89
                have hq : zrt n T S = (0, S82c) := by rw [hst, if_neg (by omega), ← hz82, if_pos (by omega), ← hS82c]
                rw [hq]
                exact ⟨rfl, rfl⟩
            ·
              refine lv_iconst (v := zI 1) hX0 hB0 dX3_readText_79 rfl ?_
              rw [← hQ]
              refine z_iret (z := 1) CX hW ?_ rfl dX3_readText_80
              have hq : zrt n T S = (1, S65c) := by rw [hst, if_pos (by omega)]
              rw [hq]
              exact ⟨rfl, rfl⟩
      exact hL56 _ S46c 0 ⟨by omega, by omega, hc46, by unfold zrt; rw [← hS1, ← hS33c]; unfold zrt1; rw [if_neg c_42, ← hz46, if_neg (by omega), ← hS46c]⟩ (Nat.lt_succ_self _) H locs ls hW (lv_sub hl [0, 1] rfl)
    ·
      refine lv_iconst (v := zI 0) hX0 hB0 dX3_readText_52 rfl ?_
      rw [← hQ]
      refine z_iret (z := 0) CX hW ?_ rfl dX3_readText_53
      have hq : zrt n T S = (0, S46c) := by unfold zrt; rw [← hS1, ← hS33c]; unfold zrt1; rw [if_neg c_42, ← hz46, if_pos (by omega), ← hS46c]
      rw [hq]
      exact ⟨rfl, rfl⟩
end ZTx7
