section ZJg
/-- a TERM ends, both -/
theorem zg_ends {p : Int} (hpr : zPr p) {Q S : zS2} {o : Nat} (h19 : S 0 19 = o) (h10 : S 0 10 = p) (hq3 : Q 0 3 = p) (hL : zLv p o Q S) : zgE (zm_endsTerm S) (12 + 3 * o) (zct o Q (20 + o)) ∧ zcan p (zct o Q (20 + o)) ∧ zflt (zct o Q (20 + o)) ∧ zct o Q (70 + o) = zone 1 ∧ (∀ k, k ≠ 20 + o → k ≠ 70 + o → zct o Q k = Q k) ∧ ∀ a i : Nat, ¬ (a = 3 ∧ 25 * (12 + 3 * o) ≤ i ∧ i < 25 * (12 + 3 * o) + 25) → (zm_endsTerm S) a i = S a i := by
  have hp := zPr_2 hpr
  obtain ⟨⟨a1, a2, a3⟩, ⟨b1, b2, b3⟩, c⟩ := hL
  have e : zm_endsTerm S = zm_adds S ((12 + 3 * o : Nat) : Int) ((13 + 3 * o : Nat) : Int) (S 7 o) := by
    unfold zm_endsTerm
    rw [h19, zm_sum_n, zm_prod_n, Int.toNat_natCast, zlet_v, zlet_v, zlet_v]
  obtain ⟨r1, r2⟩ := zE_add hpr h10 (to := 12 + 3 * o) (fr := 13 + 3 * o) (by omega) a1 b1 a2 a3 b3 (sg := S 7 o) (o := if Q 2 o = 0 then 1 else p - 1) (by
    rcases c with ⟨c1, c2⟩ | ⟨c1, c2⟩
    · rw [if_pos c1]; exact Or.inl ⟨c2, rfl⟩
    · rw [if_neg (by omega)]; exact Or.inr ⟨c2, rfl⟩)
  have e20 : zct o Q (20 + o) = zaddS (Q (20 + o)) (Q (70 + o)) 0 0 (if Q 2 o = 0 then 1 else p - 1) p := by
    unfold zct
    rw [zset_ne _ _ (by omega), zset_self, hq3]
  rw [e, e20]
  refine ⟨r1, zaddS_can (by omega) (Int.le_refl _) a2, zaddS_fl a3, ?_, fun k h1 h2 => ?_, r2⟩
  · unfold zct
    rw [zset_self]
  · unfold zct
    rw [zset_ne _ _ h2, zset_ne _ _ h1]
theorem ztk_e {n : Int} {T : Nat → Int} {Q : zS2} (sg : Int) : ∃ Q', ztk n T sg Q = (if zby n T (zsk n T (Q 0 0)) = sg then 1 else 0, Q') ∧ Q' 0 0 = (if zby n T (zsk n T (Q 0 0)) = sg then zsk n T (Q 0 0) + 1 else zsk n T (Q 0 0)) ∧ (∀ j, 3 ≤ j → Q' 0 j = Q 0 j) ∧ ∀ k, k ≠ 0 → Q' k = Q k := by
  unfold ztk zskS
  by_cases c : zby n T (zsk n T (Q 0 0)) = sg
  · rw [if_pos c, if_pos c, if_pos c]
    obtain ⟨r1, r2, r3, r4, r5⟩ := zsr_0 Q (zsk n T (Q 0 0) + 1) (Q 0 1) (Q 0 2)
    exact ⟨_, rfl, r1, r4, r5⟩
  · rw [if_neg c, if_neg c, if_neg c]
    obtain ⟨r1, r2, r3, r4, r5⟩ := zsr_0 Q (zsk n T (Q 0 0)) (Q 0 1) (Q 0 2)
    exact ⟨_, rfl, r1, r4, r5⟩
/-- what follows, both -/
def zGo (n : Int) (T : Nat → Int) (p : Int) (Q S : zS2) (C : Int × Int × Nat × zS2) (M : Int × zS2) : Prop :=
  (∃ o' Q' S', C = (1, 0, o', Q') ∧ M = (1, S') ∧ zPs n T p Q' S' ∧ zPg p o' Q' S' ∧ zop n T (Q' 0 0) ∧ Q 0 0 < Q' 0 0 ∧ zQc Q Q' ∧ zPf S S') ∨
  (∃ w Q' S', C = (0, 0, w, Q') ∧ M = (0, S') ∧ zFl Q' S' ∧ zPf S S') ∨
  (∃ Q' S', C = (0, 1, 0, Q') ∧ M = (0, S') ∧ zPs n T p Q' S' ∧ Q 0 0 ≤ Q' 0 0 ∧ zgE S' 12 (Q' 20) ∧ zcan p (Q' 20) ∧ zflt (Q' 20) ∧ zQc Q Q' ∧ zPf S S')
/-- the answer of the model's loop -/
def zgo1 (x : (Int × zS2) ⊕ zS2) : Int × zS2 := zsum x (fun r2 => r2) (fun S2 => (0, S2))
theorem zgoW_e {n : Int} {T : Nat → Int} {S : zS2} (hU : zU n T S) (ha : 0 ≤ S 0 6 ∧ S 0 6 ≤ n) (h8 : S 0 8 = 0) {a : Int} (hA : a = zsk n T (S 0 6)) {S1 : zS2} (hS1 : S1 = za S 0 6 a) (fu : Nat) : zm_goesOn_W2 (fu + 1) S = (if zby n T a = 42 then .inl (1, za S1 0 6 (S1 0 6 + 1)) else (if zby n T a = 43 then .inl (1, zm_beginsTerm (za (za (zm_endsTerm S1) 0 6 ((zm_endsTerm S1) 0 6 + 1)) 7 ((za (zm_endsTerm S1) 0 6 ((zm_endsTerm S1) 0 6 + 1)) 0 19).toNat 1)) else (if zby n T a = 45 then .inl (1, zm_beginsTerm (za (za (zm_endsTerm S1) 0 6 ((zm_endsTerm S1) 0 6 + 1)) 7 ((za (zm_endsTerm S1) 0 6 ((zm_endsTerm S1) 0 6 + 1)) 0 19).toNat (-1))) else (if (zm_endsTerm S1) 0 19 = 0 then .inl (0, zm_endsTerm S1) else (if zm_goesWell (zm_mark (zm_endsTerm S1) 41) = 0 then .inl (0, zm_mark (zm_endsTerm S1) 41) else zm_goesOn_W2 fu (zm_takesAtom (za (zm_copies (zm_mark (zm_endsTerm S1) 41) (zm_atomOf ((zm_mark (zm_endsTerm S1) 41) 0 19 - 1)) (zm_sumOf ((zm_mark (zm_endsTerm S1) 41) 0 19))) 0 19 ((zm_copies (zm_mark (zm_endsTerm S1) 41) (zm_atomOf ((zm_mark (zm_endsTerm S1) 41) 0 19 - 1)) (zm_sumOf ((zm_mark (zm_endsTerm S1) 41) 0 19))) 0 19 - 1)))))))) := by
  have e0 : zm_goesWell S = 1 := if_pos h8
  simp only [zm_goesOn_W2]
  generalize zm_takesAtom = fT
  generalize zm_endsTerm = fE
  generalize zm_mark = fM
  generalize zm_beginsTerm = fB
  generalize zm_copies = fC
  rw [e0, zlet_v, if_neg (by decide), zs_here hU ha, ← hA, ← hS1, zlet_v]
  by_cases c1 : zby n T a = 42
  · rw [if_pos c1, if_pos c1, zlet_v]
  · rw [if_neg c1, if_neg c1, zlet_v]
    by_cases c2 : zby n T a = 43
    · rw [if_pos c2, if_pos c2, zlet_v, if_pos c2, zlet_v, zlet_v]
    · rw [if_neg c2, if_neg c2]
      by_cases c3 : zby n T a = 45
      · rw [if_pos c3, if_pos c3, zlet_v, if_neg c2, zlet_v, zlet_v]
      · rw [if_neg c3, if_neg c3]
        by_cases c4 : (fE S1) 0 19 = 0
        · rw [if_pos c4, if_pos c4]
        · rw [if_neg c4, if_neg c4, zlet_v, zlet_v]
          by_cases c5 : zm_goesWell (fM (fE S1) 41) = 0
          · rw [if_pos c5, if_pos c5]
          · rw [if_neg c5, if_neg c5, zlet_v, zlet_v, zlet_v, zlet_v, zlet_v]
/-- behind all brackets that close, both -/
theorem zp_tail {n p : Int} {T : Nat → Int} (hpr : zPr p) {Q S Qx : zS2} (h : zPs n T p Q S) {o : Nat} (hg : zPg p o Q S) (hx0 : zsk n T (Qx 0 0) = zsk n T (Q 0 0)) (hxj : ∀ j, 3 ≤ j → Qx 0 j = Q 0 j) (hxk : ∀ k, k ≠ 0 → Qx k = Q k) (hc : ¬ (zby n T (zsk n T (Q 0 0)) = 41 ∧ o ≠ 0)) (fu : Nat) : zGo n T p Q S (zrs2 n T o Qx) (zgo1 (zm_goesOn_W2 (fu + 1) S)) := by
  have hp := zPr_2 hpr
  have hpos := h.pos
  have hps := h
  obtain ⟨hU, h8, h6, hr, hq3, h10⟩ := h
  have hg' := hg
  obtain ⟨h19, ho, hL, hst⟩ := hg
  obtain ⟨a, ha⟩ : ∃ a, a = zsk n T (Q 0 0) := ⟨_, rfl⟩
  have rk := zsk_r (T := T) hr
  have ida : zsk n T a = a := by rw [ha]; exact zsk_id hr
  rw [← ha] at rk hc hx0
  obtain ⟨S1, hS1⟩ : ∃ S1, S1 = za S 0 6 a := ⟨_, rfl⟩
  have eM := zgoW_e hU hpos h8 (show a = zsk n T (S 0 6) by rw [h6]; exact ha) hS1 fu
  have s1 : ∀ a i : Nat, ¬ (a = 0 ∧ i = 6) → S1 a i = S a i := fun a i h1 => by rw [hS1, za_ne h1]
  have s16 : S1 0 6 = a := by rw [hS1, za_same]
  have s18 : S1 0 8 = 0 := by rw [s1 0 8 (by omega), h8]
  have s119 : S1 0 19 = o := by rw [s1 0 19 (by omega), h19]
  have hU1 : zU n T S1 := hU.same (s1 0 5 (by omega)) (fun k => s1 1 k (by omega))
  obtain ⟨Qy, t1, t2, t3, t4⟩ := ztk_e (n := n) (T := T) (Q := Qx) 42
  rw [hx0] at t1 t2
  have yj : ∀ j, 3 ≤ j → Qy 0 j = Q 0 j := fun j hj => by rw [t3 j hj, hxj j hj]
  have yk : ∀ k, k ≠ 0 → Qy k = Q k := fun k hk => by rw [t4 k hk, hxk k hk]
  by_cases c1 : zby n T a = 42
  · have ain := zby_in (n := n) (T := T) (a := a) (by omega)
    rw [if_pos c1] at t1 t2 eM
    have eC : zrs2 n T o Qx = (1, 0, o, Qy) := by
      unfold zrs2
      rw [t1]
      dsimp only
      rw [if_neg (show ¬ (1 : Int) = 0 by decide)]
    rw [eM, eC]
    have fS : ∀ x i : Nat, ¬ (x = 0 ∧ i = 6) → (za S1 0 6 (S1 0 6 + 1)) x i = S x i := fun x i h1 => by rw [za_ne h1, s1 x i h1]
    refine Or.inl ⟨o, Qy, _, rfl, rfl, ⟨hU1.same (fS 0 5 (by omega) |>.trans (s1 0 5 (by omega)).symm) (fun k => (fS 1 k (by omega)).trans (s1 1 k (by omega)).symm), by rw [fS 0 8 (by omega), h8], by rw [za_same, s16, t2], by omega, by rw [yj 3 (by decide), hq3], by rw [fS 0 10 (by omega), h10]⟩, ⟨by rw [fS 0 19 (by omega), h19], ho, fun k hk => (hL k hk).sc (fun j hj => yk j (by omega)) (fun x i hx => fS x i (by omega)), fun k hk => by rw [yk 3 (by decide), fS 8 k (by omega)]; exact hst k hk⟩, by rw [t2]; exact zop_at c1 (by omega) (by omega), by omega, ⟨yj 4 (by decide), fun k hk => yk k (by omega)⟩, fun x i a1 _ _ _ _ => fS x i (by omega)⟩
  · rw [if_neg c1] at t1 t2 eM
    -- the TERM ends
    have Ly : zLv p o Qy S1 := (hL o (Nat.le_refl _)).sc (fun j hj => yk j (by omega)) (fun x i hx => s1 x i (by omega))
    obtain ⟨g1, g2, g3, g4, g5, g6⟩ := zg_ends hpr s119 (by rw [s1 0 10 (by omega), h10]) (by rw [yj 3 (by decide), hq3]) Ly
    obtain ⟨Qz, hQz⟩ : ∃ Qz, Qz = zct o Qy := ⟨_, rfl⟩
    obtain ⟨S2, hS2⟩ : ∃ S2, S2 = zm_endsTerm S1 := ⟨_, rfl⟩
    rw [← hQz] at g1 g2 g3 g4 g5
    rw [← hS2] at g1 g6 eM
    have z0 : Qz 0 = Qy 0 := g5 0 (by omega) (by omega)
    have s26 : S2 0 6 = a := by rw [g6 0 6 (by omega), s16]
    have s219 : S2 0 19 = o := by rw [g6 0 19 (by omega), s119]
    have f2 : ∀ x i : Nat, ¬ (x = 0 ∧ i = 6) → ¬ (x = 3 ∧ 25 * (12 + 3 * o) ≤ i ∧ i < 25 * (12 + 3 * o) + 25) → S2 x i = S x i := fun x i h1 h2 => by rw [g6 x i h2, s1 x i h1]
    obtain ⟨Qw, u1, u2, u3, u4⟩ := ztk_e (n := n) (T := T) (Q := Qz) 45
    rw [z0, t2, ida] at u1 u2
    have wj : ∀ j, 3 ≤ j → Qw 0 j = Q 0 j := fun j hj => by rw [u3 j hj, z0, yj j hj]
    have wk : ∀ k, k ≠ 0 → k ≠ 20 + o → k ≠ 70 + o → Qw k = Q k := fun k h0 h1 h2 => by rw [u4 k h0, g5 k h1 h2, yk k h0]
    have w20 : Qw (20 + o) = Qz (20 + o) := u4 _ (by omega)
    have w70 : Qw (70 + o) = zone 1 := by rw [u4 _ (by omega), g4]
    have eC0 : zrs2 n T o Qx = if zby n T a = 45 then (1, 0, o, zbg2 o (1, Qw)) else zrs3 n T o (zbg2 o (0, Qw)) := by
      unfold zrs2
      rw [t1]
      dsimp only
      rw [if_pos (show (0 : Int) = 0 from rfl), ← hQz, u1]
      by_cases c : zby n T a = 45
      · rw [if_pos c, if_pos c]
        dsimp only
        rw [if_neg (show ¬ (1 : Int) = 0 by decide)]
      · rw [if_neg c, if_neg c]
        dsimp only
        rw [if_pos (show (0 : Int) = 0 from rfl)]
    have b2k : ∀ (m : Int) k, k ≠ 2 → zbg2 o (m, Qw) k = Qw k := fun m k hk => by
      unfold zbg2
      rw [zset_ne _ _ hk]
    have b22 : ∀ (m : Int) k, zbg2 o (m, Qw) 2 k = if k = o then m else Q 2 k := fun m k => by
      unfold zbg2
      rw [zset_self, zup_ap]
      show (if k = o then m else Qw 2 k) = if k = o then m else Q 2 k
      rw [wk 2 (by omega) (by omega) (by omega)]
    -- another TERM
    have more : ∀ (Q' : zS2) (m sg : Int), ((m = 0 ∧ sg = 1) ∨ (m = 1 ∧ sg = -1)) → zop n T (a + 1) → a < n → Q' 0 0 = a + 1 → (∀ j, 3 ≤ j → Q' 0 j = Q 0 j) → (∀ k, k ≠ 0 → Q' k = zbg2 o (m, Qw) k) → zGo n T p Q S (1, 0, o, Q') (1, zm_beginsTerm (za (za S2 0 6 (S2 0 6 + 1)) 7 ((za S2 0 6 (S2 0 6 + 1)) 0 19).toNat sg)) := fun Q' m sg hms hz han q0 qj qk => by
      obtain ⟨S3, hS3⟩ : ∃ S3, S3 = za (za S2 0 6 (a + 1)) 7 o sg := ⟨_, rfl⟩
      have eS : za (za S2 0 6 (S2 0 6 + 1)) 7 ((za S2 0 6 (S2 0 6 + 1)) 0 19).toNat sg = S3 := by rw [s26, za_ne (show ¬ (0 = 0 ∧ 19 = 6) by omega), s219, Int.toNat_natCast, hS3]
      rw [eS]
      have f3 : ∀ x i : Nat, ¬ (x = 0 ∧ i = 6) → ¬ (x = 7 ∧ i = o) → S3 x i = S2 x i := fun x i h1 h2 => by rw [hS3, za_ne h2, za_ne h1]
      obtain ⟨b1, b2⟩ := zg_term (S := S3) (p := p) (o := o) (by rw [f3 0 19 (by omega) (by omega), s219]) (by rw [f3 0 10 (by omega) (by omega), f2 0 10 (by omega) (by omega), h10]) hp.1
      obtain ⟨S4, hS4⟩ : ∃ S4, S4 = zm_beginsTerm S3 := ⟨_, rfl⟩
      rw [← hS4] at b1 b2 ⊢
      have f4 : ∀ x i : Nat, ¬ (x = 0 ∧ i = 6) → ¬ (x = 7 ∧ i = o) → ¬ (x = 3 ∧ 25 * (12 + 3 * o) ≤ i ∧ i < 25 * (12 + 3 * o) + 50) → S4 x i = S x i := fun x i h1 h2 h3 => by rw [b2 x i (by omega), f3 x i h1 h2, f2 x i h1 (by omega)]
      have qk2 : ∀ k, k ≠ 0 → k ≠ 2 → k ≠ 20 + o → k ≠ 70 + o → Q' k = Q k := fun k h0 h2 h20 h70 => by rw [qk k h0, b2k m k h2, wk k h0 h20 h70]
      refine Or.inl ⟨o, Q', S4, rfl, rfl, ⟨hU.same (f4 0 5 (by omega) (by omega) (by omega)) (fun k => f4 1 k (by omega) (by omega) (by omega)), by rw [f4 0 8 (by omega) (by omega) (by omega), h8], ?_, by omega, by rw [qj 3 (by decide), hq3], by rw [f4 0 10 (by omega) (by omega) (by omega), h10]⟩, ⟨by rw [f4 0 19 (by omega) (by omega) (by omega), h19], ho, fun k hk => ?_, fun k hk => ?_⟩, by rw [q0]; exact hz, by omega, ⟨qj 4 (by decide), fun k hk => qk2 k (by omega) (by omega) (by omega) (by omega)⟩, fun x i a1 a2 a3 a4 a5 => f4 x i (by omega) (by omega) (by omega)⟩
      · rw [b2 0 6 (by omega), hS3, za_ne (by omega), za_same, q0]
      · by_cases e : k = o
        · rw [e]
          refine ⟨⟨?_, ?_, ?_⟩, ⟨?_, ?_, ?_⟩, ?_⟩
          · rw [qk _ (by omega), b2k m _ (by omega), w20]
            exact g1.fr (fun i h1 h2 => by rw [b2 3 i (by omega), f3 3 i (by omega) (by omega)])
          · rw [qk _ (by omega), b2k m _ (by omega), w20]; exact g2
          · rw [qk _ (by omega), b2k m _ (by omega), w20]; exact g3
          · rw [qk _ (by omega), b2k m _ (by omega), w70]; exact b1
          · rw [qk _ (by omega), b2k m _ (by omega), w70]; exact zone_can (by omega) (by omega)
          · rw [qk _ (by omega), b2k m _ (by omega), w70]; exact zone_flt 1
          · rw [qk 2 (by omega), b22 m o, if_pos rfl, b2 7 o (by omega), hS3, za_same]
            exact hms
        · have L := hL k hk
          obtain ⟨⟨a1, a2, a3⟩, ⟨c1, c2, c3⟩, d⟩ := L
          refine ⟨⟨?_, ?_, ?_⟩, ⟨?_, ?_, ?_⟩, ?_⟩
          · rw [qk2 _ (by omega) (by omega) (by omega) (by omega)]
            exact a1.fr (fun i h1 h2 => f4 3 i (by omega) (by omega) (by omega))
          · rw [qk2 _ (by omega) (by omega) (by omega) (by omega)]; exact a2
          · rw [qk2 _ (by omega) (by omega) (by omega) (by omega)]; exact a3
          · rw [qk2 _ (by omega) (by omega) (by omega) (by omega)]
            exact c1.fr (fun i h1 h2 => f4 3 i (by omega) (by omega) (by omega))
          · rw [qk2 _ (by omega) (by omega) (by omega) (by omega)]; exact c2
          · rw [qk2 _ (by omega) (by omega) (by omega) (by omega)]; exact c3
          · rw [qk 2 (by omega), b22 m k, if_neg e, f4 7 k (by omega) (by omega) (by omega)]; exact d
      · rw [qk2 3 (by omega) (by omega) (by omega) (by omega), f4 8 k (by omega) (by omega) (by omega)]
        exact hst k hk
    by_cases c3 : zby n T a = 45
    · have ain := zby_in (n := n) (T := T) (a := a) (by omega)
      rw [if_pos c3] at u1 u2 eC0
      rw [if_neg (by omega), if_pos c3] at eM
      rw [eM, eC0]
      exact more _ 1 (-1) (Or.inr ⟨rfl, rfl⟩) (zop_at c3 (by omega) (by omega)) ain.2 (by rw [b2k 1 0 (by decide), u2]) (fun j hj => by rw [b2k 1 0 (by decide), wj j hj]) (fun k _ => rfl)
    · rw [if_neg c3] at u1 u2 eC0
      obtain ⟨Qv, v1, v2, v3, v4⟩ := ztk_e (n := n) (T := T) (Q := zbg2 o (0, Qw)) 43
      rw [b2k 0 0 (by decide), u2, ida] at v1 v2
      by_cases c2 : zby n T a = 43
      · have ain := zby_in (n := n) (T := T) (a := a) (by omega)
        rw [if_pos c2] at v1 v2 eM
        have eC : zrs2 n T o Qx = (1, 0, o, Qv) := by
          rw [eC0]
          unfold zrs3
          rw [v1]
          dsimp only
          rw [if_neg (show ¬ (1 : Int) = 0 by decide)]
        rw [eM, eC]
        exact more _ 0 1 (Or.inl ⟨rfl, rfl⟩) (zop_at c2 (by omega) (by omega)) ain.2 v2 (fun j hj => by rw [v3 j hj, b2k 0 0 (by decide), wj j hj]) v4
      · rw [if_neg c2, if_neg c3, s219] at eM
        rw [if_neg c2] at v1 v2
        have vj : ∀ j, 3 ≤ j → Qv 0 j = Q 0 j := fun j hj => by rw [v3 j hj, b2k 0 0 (by decide), wj j hj]
        have eC : zrs2 n T o Qx = if o = 0 then (0, 1, o, Qv) else (0, 0, o, zfl 1 a Qv) := by
          rw [eC0]
          unfold zrs3
          rw [v1]
          dsimp only
          rw [if_pos (show (0 : Int) = 0 from rfl), v2]
        have pf2 : zPf S S2 := fun x i a1 a2 a3 a4 a5 => f2 x i (by omega) (by omega)
        by_cases c0 : o = 0
        · rw [if_pos (by omega)] at eM
          rw [if_pos c0] at eC
          rw [eM, eC, c0]
          have q20 : Qv 20 = Qz (20 + o) := by
            have := v4 (20 + o) (by omega)
            rw [b2k 0 (20 + o) (by omega), w20] at this
            rw [← this, c0]
          refine Or.inr (Or.inr ⟨Qv, S2, rfl, rfl, ⟨hU.same (f2 0 5 (by omega) (by omega)) (fun k => f2 1 k (by omega) (by omega)), by rw [f2 0 8 (by omega) (by omega), h8], by rw [s26, v2], by omega, by rw [vj 3 (by decide), hq3], by rw [f2 0 10 (by omega) (by omega), h10]⟩, by omega, ?_, by rw [q20]; exact g2, by rw [q20]; exact g3, ⟨vj 4 (by decide), fun k hk => ?_⟩, pf2⟩)
          · rw [q20]
            have := g1
            rw [show 12 + 3 * o = 12 by omega] at this
            exact this
          · rw [v4 k (by omega), b2k 0 k (by omega), wk k (by omega) (by omega) (by omega)]
        · rw [if_neg (by omega)] at eM
          rw [if_neg c0] at eC
          have mk := zs_mark (n := n) (T := T) (S := S2) (hU.same (f2 0 5 (by omega) (by omega)) (fun k => f2 1 k (by omega) (by omega))) (by rw [s26]; omega) (by rw [f2 0 8 (by omega) (by omega), h8]) 41
          rw [s26, ida] at mk
          rcases mk with ⟨m1, _⟩ | ⟨_, m2⟩
          · exact absurd ⟨m1, c0⟩ hc
          · rw [if_pos (show zm_goesWell (zm_mark S2 41) = 0 from if_neg (by rw [m2.2.1]; decide))] at eM
            rw [eM, eC]
            exact Or.inr (Or.inl ⟨o, _, _, rfl, rfl, zFl_of m2.2.1 m2.2.2 (by decide) _, pf2.tr m2.1.pf⟩)
theorem zGo.up {n p : Int} {T : Nat → Int} {Q S Q1 S1 : zS2} {C : Int × Int × Nat × zS2} {M : Int × zS2} (h : zGo n T p Q1 S1 C M) (h0 : Q 0 0 ≤ Q1 0 0) (hQ : zQc Q Q1) (hS : zPf S S1) : zGo n T p Q S C M := by
  rcases h with ⟨o', Q', S', a1, a2, a3, a4, a5, a6, a7, a8⟩ | ⟨w, Q', S', a1, a2, a3, a4⟩ | ⟨Q', S', a1, a2, a3, a4, a5, a6, a7, a8, a9⟩
  · exact Or.inl ⟨o', Q', S', a1, a2, a3, a4, a5, by omega, hQ.tr a7, hS.tr a8⟩
  · exact Or.inr (Or.inl ⟨w, Q', S', a1, a2, a3, hS.tr a4⟩)
  · exact Or.inr (Or.inr ⟨Q', S', a1, a2, a3, by omega, a5, a6, a7, hQ.tr a8, hS.tr a9⟩)
/-- behind a FACTOR, both -/
theorem zp_goes {n p : Int} {T : Nat → Int} (hpr : zPr p) : ∀ (o fu : Nat) (Q S : zS2), zPs n T p Q S → zPg p o Q S → o < fu → zGo n T p Q S (zrsW n T o Q) (zgo1 (zm_goesOn_W2 fu S))
  | 0, fu, Q, S, h, hg, hf => by
    obtain ⟨fu, rfl⟩ : ∃ k, fu = k + 1 := ⟨fu - 1, by omega⟩
    have e : zrsW n T 0 Q = zrs2 n T 0 Q := by
      have e0 : zcw n T 0 Q = (1, 0, Q) := rfl
      unfold zrsW
      rw [e0]
      dsimp only
      rw [if_neg (show ¬ (1 : Int) = 0 by decide)]
    rw [e]
    exact zp_tail hpr h hg rfl (fun _ _ => rfl) (fun _ _ => rfl) (fun z => z.2 rfl) fu
  | m + 1, fu, Q, S, h, hg, hf => by
    obtain ⟨fu, rfl⟩ : ∃ k, fu = k + 1 := ⟨fu - 1, by omega⟩
    have hp := zPr_2 hpr
    obtain ⟨Q1, t1, t2, t3, t4⟩ := ztk_e (n := n) (T := T) (Q := Q) 41
    by_cases c : zby n T (zsk n T (Q 0 0)) = 41
    · -- a bracket closes
      have hpos := h.pos
      have hps := h
      have hgg := hg
      obtain ⟨hU, h8, h6, hr, hq3, h10⟩ := h
      obtain ⟨h19, ho, hL, hst⟩ := hg
      obtain ⟨a, ha⟩ : ∃ a, a = zsk n T (Q 0 0) := ⟨_, rfl⟩
      have rk := zsk_r (T := T) hr
      have ida : zsk n T a = a := by rw [ha]; exact zsk_id hr
      rw [← ha] at rk c t1 t2
      rw [if_pos c] at t1 t2
      have ain := zby_in (n := n) (T := T) (a := a) (by omega)
      obtain ⟨S1, hS1⟩ : ∃ S1, S1 = za S 0 6 a := ⟨_, rfl⟩
      have eM := zgoW_e hU hpos h8 (show a = zsk n T (S 0 6) by rw [h6]; exact ha) hS1 fu
      have s1 : ∀ a i : Nat, ¬ (a = 0 ∧ i = 6) → S1 a i = S a i := fun a i h1 => by rw [hS1, za_ne h1]
      have s16 : S1 0 6 = a := by rw [hS1, za_same]
      have s119 : S1 0 19 = ((m + 1 : Nat) : Int) := by rw [s1 0 19 (by omega), h19]
      have Ly : zLv p (m + 1) Q1 S1 := (hL (m + 1) (Nat.le_refl _)).sc (fun j hj => t4 j (by omega)) (fun x i hx => s1 x i (by omega))
      obtain ⟨g1, g2, g3, g4, g5, g6⟩ := zg_ends hpr s119 (by rw [s1 0 10 (by omega), h10]) (by rw [t3 3 (by decide), hq3]) Ly
      obtain ⟨Qz, hQz⟩ : ∃ Qz, Qz = zct (m + 1) Q1 := ⟨_, rfl⟩
      obtain ⟨S2, hS2⟩ : ∃ S2, S2 = zm_endsTerm S1 := ⟨_, rfl⟩
      rw [← hQz] at g1 g2 g3 g4 g5
      rw [← hS2] at g1 g6 eM
      have f2 : ∀ x i : Nat, ¬ (x = 0 ∧ i = 6) → ¬ (x = 3 ∧ 25 * (12 + 3 * (m + 1)) ≤ i ∧ i < 25 * (12 + 3 * (m + 1)) + 25) → S2 x i = S x i := fun x i h1 h2 => by rw [g6 x i h2, s1 x i h1]
      have s26 : S2 0 6 = a := by rw [g6 0 6 (by omega), s16]
      have s219 : S2 0 19 = ((m + 1 : Nat) : Int) := by rw [g6 0 19 (by omega), s119]
      have hU2 : zU n T S2 := hU.same (f2 0 5 (by omega) (by omega)) (fun k => f2 1 k (by omega) (by omega))
      have mk := zs_mark (n := n) (T := T) (S := S2) hU2 (by rw [s26]; omega) (by rw [f2 0 8 (by omega) (by omega), h8]) 41
      rw [s26, ida] at mk
      rcases mk with ⟨_, m2, m3, m4, m5⟩ | ⟨m1, _⟩
      · obtain ⟨S3, hS3⟩ : ∃ S3, S3 = zm_mark S2 41 := ⟨_, rfl⟩
        rw [← hS3] at m2 m3 m4 m5 eM
        have s319 : S3 0 19 = ((m + 1 : Nat) : Int) := by rw [m2 0 19 (by omega), s219]
        rw [if_neg (by omega), if_neg (by omega), if_neg (by omega), s219, if_neg (by omega), if_neg (show ¬ zm_goesWell S3 = 0 by rw [show zm_goesWell S3 = 1 from if_pos m3]; decide), s319, show ((m + 1 : Nat) : Int) - 1 = (m : Int) by omega, zm_atom_n, zm_sum_n] at eM
        have cp := zm_copies_sp S3 (14 + 3 * m) (12 + 3 * (m + 1))
        obtain ⟨S4, hS4⟩ : ∃ S4, S4 = zm_copies S3 ((14 + 3 * m : Nat) : Int) ((12 + 3 * (m + 1) : Nat) : Int) := ⟨_, rfl⟩
        rw [← hS4] at cp eM
        rw [cp 0 19, if_neg (by omega), s319, show ((m + 1 : Nat) : Int) - 1 = (m : Int) by omega] at eM
        obtain ⟨S5, hS5⟩ : ∃ S5, S5 = za S4 0 19 (m : Int) := ⟨_, rfl⟩
        rw [← hS5] at eM
        have f5 : ∀ x i : Nat, ¬ (x = 0 ∧ ((6 ≤ i ∧ i ≤ 9) ∨ i = 19)) → ¬ (x = 3 ∧ 25 * (12 + 3 * (m + 1)) ≤ i ∧ i < 25 * (12 + 3 * (m + 1)) + 25) → ¬ (x = 3 ∧ 25 * (14 + 3 * m) ≤ i ∧ i < 25 * (14 + 3 * m) + 25) → S5 x i = S x i := fun x i h1 h2 h3 => by rw [hS5, za_ne (by omega), cp, if_neg h3, m2 x i (by omega), f2 x i (by omega) h2]
        obtain ⟨Qc, hQc⟩ : ∃ Qc, Qc = zcl (m + 1) Q1 := ⟨_, rfl⟩
        have qc4 : Qc 4 = Qz (20 + (m + 1)) := by
          rw [hQc]
          unfold zcl
          rw [zset_self, ← hQz]
        have qck : ∀ k, k ≠ 4 → Qc k = Qz k := fun k hk => by
          rw [hQc]
          unfold zcl
          rw [zset_ne _ _ hk, ← hQz]
        have qc0 : Qc 0 = Q1 0 := by rw [qck 0 (by decide), g5 0 (by omega) (by omega)]
        have qco : ∀ k, k ≠ 0 → k ≠ 4 → k ≠ 20 + (m + 1) → k ≠ 70 + (m + 1) → Qc k = Q k := fun k h0 h4 h20 h70 => by rw [qck k h4, g5 k h20 h70, t4 k h0]
        have hPc : zPs n T p Qc S5 := by
          refine ⟨hU.same (f5 0 5 (by omega) (by omega) (by omega)) (fun k => f5 1 k (by omega) (by omega) (by omega)), ?_, ?_, ?_, by rw [qc0, t3 3 (by decide), hq3], by rw [f5 0 10 (by omega) (by omega) (by omega), h10]⟩
          · rw [hS5, za_ne (by omega), cp, if_neg (by omega), m3]
          · rw [hS5, za_ne (by omega), cp, if_neg (by omega), m5, qc0, t2]
          · rw [qc0, t2]; omega
        have Lk : ∀ k, k ≤ m → zLv p k Qc S5 := fun k hk => (hL k (by omega)).sc (fun j hj => qco j (by omega) (by omega) (by omega) (by omega)) (fun x i hx => f5 x i (by omega) (by omega) (by omega))
        have hPg : zPg p m Qc S5 := ⟨by rw [hS5, za_same], by omega, Lk, fun k hk => by
          rw [qco 3 (by decide) (by decide) (by omega) (by omega), f5 8 k (by omega) (by omega) (by omega)]
          exact hst k (by omega)⟩
        have g4c : zgE S5 (14 + 3 * m) (Qc 4) := fun q hq => by
          rw [qc4, hS5, za_ne (by omega), cp, if_pos (by omega), show 25 * (14 + 3 * m) + q - 25 * (14 + 3 * m) = q by omega, m2 3 _ (by omega)]
          exact g1 q hq
        have fc := zp_factor hpr hPc (o := m) (by rw [hS5, za_same]) (by omega) (Lk m (Nat.le_refl _)) g4c (by rw [qc4]; exact g2)
        have st : Qc 3 m = S5 8 m := by
          rw [qco 3 (by decide) (by decide) (by omega) (by omega), f5 8 m (by omega) (by omega) (by omega)]
          exact hst m (by omega)
        rw [← st] at fc
        obtain ⟨fc1, fc2⟩ := fc
        have eZ : zcw n T (m + 1) Q = if (zrf n T m (Qc 3 m) Qc).1 = 0 then (0, m, (zrf n T m (Qc 3 m) Qc).2) else zcw n T m (zrf n T m (Qc 3 m) Qc).2 := by
          rw [zcw_s, t1]
          dsimp only
          rw [if_neg (show ¬ (1 : Int) = 0 by decide), ← hQc]
        have pf5 : zPf S S5 := fun x i a1 a2 a3 a4 a5 => f5 x i (by omega) (by omega) (by omega)
        rw [eM]
        obtain ⟨S6, hS6⟩ : ∃ S6, S6 = zm_takesAtom S5 := ⟨_, rfl⟩
        rw [← hS6] at fc1 fc2 ⊢
        obtain ⟨R, hR⟩ : ∃ R, R = zrf n T m (Qc 3 m) Qc := ⟨_, rfl⟩
        rw [← hR] at fc2 eZ
        rcases fc2 with ⟨w1, w2⟩ | ⟨w1, w2, w3, w4, w5⟩
        · have eC : zrsW n T (m + 1) Q = (0, 0, m, R.2) := by
            unfold zrsW
            rw [eZ, if_pos w1]
            dsimp only
            rw [if_pos (show (0 : Int) = 0 from rfl)]
          have eW : zgo1 (zm_goesOn_W2 fu S6) = (0, S6) := by
            cases fu with
            | zero => rfl
            | succ k =>
              simp only [zm_goesOn_W2]
              rw [show zm_goesWell S6 = 0 from if_neg w2.1, zlet_v, if_pos rfl]
              rfl
          rw [eC, eW]
          exact Or.inr (Or.inl ⟨m, R.2, S6, rfl, rfl, w2, pf5.tr fc1.pf⟩)
        · have eC : zrsW n T (m + 1) Q = zrsW n T m R.2 := by
            have eZ2 : zcw n T (m + 1) Q = zcw n T m R.2 := by rw [eZ, if_neg (show ¬ R.1 = 0 by omega)]
            unfold zrsW
            rw [eZ2]
          rw [eC]
          refine (zp_goes hpr m fu R.2 S6 w2 (hPg.fr w5 fc1 w4) (by omega)).up ?_ ?_ (pf5.tr fc1.pf)
          · rw [qc0, t2] at w3
            omega
          · refine zQc.tr ⟨?_, fun k hk => ?_⟩ (w5.qc (by omega))
            · rw [qc0, t3 4 (by decide)]
            · exact qco k (by omega) (by omega) (by omega) (by omega)
      · exact absurd c m1
    · rw [if_neg c] at t1 t2
      have e : zrsW n T (m + 1) Q = zrs2 n T (m + 1) Q1 := by
        unfold zrsW
        rw [zcw_s, t1]
        dsimp only
        rw [if_pos (show (0 : Int) = 0 from rfl)]
        dsimp only
        rw [if_neg (show ¬ (1 : Int) = 0 by decide)]
      rw [e]
      exact zp_tail hpr h hg (by rw [t2]; exact zsk_id h.2.2.2.1) t3 t4 (fun z => c z.1) fu
end ZJg
