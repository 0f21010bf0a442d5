section ZJj
/-- the curves that are read, both -/
def zDr (p : Int) (Q S : zS2) : Prop := S 0 15 = Q 0 4 ∧ (0 ≤ Q 0 4 ∧ Q 0 4 ≤ 6) ∧ ∀ c : Nat, (c : Int) < Q 0 4 → (zgE S (6 + c) (Q (7 + c)) ∧ zcan p (Q (7 + c)) ∧ zflt (Q (7 + c)) ∧ 0 < ztop (Q (7 + c))) ∧ (∀ i : Nat, i < 6 → zlt5 (S 5 (6 + c)) (5 * i) = Q 1 (6 * c + i)) ∧ 0 ≤ S 5 (6 + c) ∧ S 5 (6 + c) < 1073741824
theorem zDr.fr {p : Int} {Q S Q' S' : zS2} (h : zDr p Q S) (hQ : zQc Q Q') (hS : zPf S S') : zDr p Q' S' := by
  obtain ⟨a, b, c⟩ := h
  have f5 : ∀ i, S' 5 i = S 5 i := fun i => hS 5 i (by omega) (by omega) (by omega) (by omega) (by omega)
  refine ⟨by rw [hS 0 15 (by omega) (by omega) (by omega) (by omega) (by omega), hQ.1]; exact a, by rw [hQ.1]; exact b, fun k hk => ?_⟩
  rw [hQ.1] at hk
  obtain ⟨⟨c1, c2, c3, c4⟩, c5, c6, c7⟩ := c k hk
  have q := hQ.2 (7 + k) (by omega)
  refine ⟨⟨?_, by rw [q]; exact c2, by rw [q]; exact c3, by rw [q]; exact c4⟩, fun i hi => ?_, by rw [f5]; exact c6, by rw [f5]; exact c7⟩
  · rw [q]
    exact c1.fr (fun i h1 h2 => hS 3 i (by omega) (by omega) (by omega) (by omega) (by omega))
  · rw [f5, hQ.2 1 (by omega)]
    exact c5 i hi
theorem zwe_1 {n : Int} {T : Nat → Int} {a : Int} (h : 97 ≤ zby n T a ∧ zby n T a ≤ 122) : a + 1 ≤ zwe n T a := by
  have ain := zby_in (n := n) (T := T) (a := a) (by omega)
  unfold zwe
  rw [zweF_s T ain.2, if_pos h]
  exact (zweF_rng (n := n) (T := T) _ _).1
theorem zwe_0 {n : Int} {T : Nat → Int} {a : Int} (h : ¬ (97 ≤ zby n T a ∧ zby n T a ≤ 122)) : zwe n T a = a := by
  unfold zwe
  cases hk : (n - a).toNat with
  | zero => rfl
  | succ k =>
    simp only [zweF]
    rw [if_neg h]
theorem zs_nameE (S : zS2) : zm_name S = (if zm_goesWell (zm_name_J8 (zm_word S) (zm_goesWell (zm_word S))) = 0 then 0 else (zm_name_W50 (zm_name_J8 (zm_word S) (zm_goesWell (zm_word S))) 1001 ((zm_name_J8 (zm_word S) (zm_goesWell (zm_word S))) 0 6 - 1) 0).2, zm_name_J8 (zm_word S) (zm_goesWell (zm_word S))) := by
  unfold zm_name
  generalize zm_name_W50 = W
  generalize zm_name_J8 = J
  generalize zm_word = Wd
  rw [zlet_v, zlet_v, zlet_v, zlet_v]
  dsimp only
  rw [zlet_v]
  split <;> rfl
theorem zs_nameJ {S1 : zS2} (h8 : S1 0 8 = 0) : zm_name_J8 S1 (zm_goesWell S1) = if zm_own S1 = 0 then (if S1 0 6 - S1 0 7 ≤ 6 then S1 else zm_faults S1 1 (S1 0 7)) else zm_faults S1 1 (S1 0 7) := by
  rw [show zm_goesWell S1 = 1 from if_pos h8]
  unfold zm_name_J8
  generalize zm_own = O
  rw [if_neg (show ¬ (1 : Int) = 0 by decide), zlet_v]
  by_cases c : O S1 = 0
  · rw [if_pos c, if_pos c]
    by_cases d : S1 0 6 - S1 0 7 ≤ 6
    · rw [if_pos d, if_pos d]
    · rw [if_neg d, if_neg d, zlet_v]
  · rw [if_neg c, if_neg c, zlet_v]
/-- a NAME, both -/
def zNm (n : Int) (T : Nat → Int) (p b : Int) (Q S : zS2) (C N : Int × zS2) (S' : zS2) : Prop := zFs S S' ∧ ((C.1 = 0 ∧ zFl C.2 S') ∨ (C.1 = 1 ∧ zPs n T p C.2 S' ∧ b ≤ C.2 0 0 ∧ N.2 0 7 = b ∧ (∀ j, 3 ≤ j → C.2 0 j = Q 0 j) ∧ (∀ k, k ≠ 0 → k ≠ 1 → C.2 k = Q k) ∧ (∀ q : Nat, (q : Int) < 6 * Q 0 4 → C.2 1 q = Q 1 q) ∧ (∀ i : Nat, i < 6 → zlt5 N.1 (5 * i) = C.2 1 (6 * (Q 0 4).toNat + i)) ∧ 0 ≤ N.1 ∧ N.1 < 1073741824))
theorem zs_name {n p : Int} {T : Nat → Int} {Q S : zS2} (h : zPs n T p Q S) (hd : zDr p Q S) (h5 : Q 0 4 ≤ 5) {b : Int} (hb : b = zsk n T (Q 0 0)) (hw : (97 ≤ zby n T b ∧ zby n T b ≤ 122) → zop n T b) : zNm n T p b Q S (zrnm n T (zskS n T Q)) (zm_name S) (zm_readsCurve_W65 (zm_name S).1 (zm_name S).2 8 0 (zm_name S).2).2 := by
  have hps := h
  obtain ⟨hU, h8, h6, hr, hq3, h10⟩ := h
  obtain ⟨d1, d2, d3⟩ := hd
  have rk := zsk_r (T := T) hr
  have wd := zs_word hU hps.pos h8
  rw [h6, ← hb] at wd
  rw [← hb] at rk
  have eN := zs_nameE S
  obtain ⟨S1, hS1⟩ : ∃ S1, S1 = zm_word S := ⟨_, rfl⟩
  rw [← hS1] at wd eN
  obtain ⟨z1, _, _, z4, z5⟩ := zsr_0 Q (zsk n T (Q 0 0)) (Q 0 1) (Q 0 2)
  have eq : zskS n T Q = zsr Q (zsk n T (Q 0 0)) (Q 0 1) (Q 0 2) := rfl
  obtain ⟨Qb, hQb⟩ : ∃ Qb, Qb = zskS n T Q := ⟨_, rfl⟩
  rw [← eq, ← hQb] at z1 z4 z5
  rw [← hb] at z1
  rw [← hQb]
  obtain ⟨N, hN⟩ : ∃ N, N = zm_name S := ⟨_, rfl⟩
  rw [← hN] at eN ⊢
  obtain ⟨C, hC⟩ : ∃ C, C = zrnm n T Qb := ⟨_, rfl⟩
  rw [← hC]
  have fail : ∀ SJ, zm_name_J8 S1 (zm_goesWell S1) = SJ → zft S SJ 1 b → zrnmB n T b (zwe n T b - b) → zNm n T p b Q S C N (zm_readsCurve_W65 N.1 N.2 8 0 N.2).2 := fun SJ e1 t hB => by
    have z8 : ¬ SJ 0 8 = 0 := by rw [t.2.1]; decide
    have eC : C = (0, zfl 1 b Qb) := by
      rw [hC]
      unfold zrnm zrnm0
      rw [z1, if_pos hB]
    rw [e1, if_pos (show zm_goesWell SJ = 0 from if_neg z8)] at eN
    rw [eN, eC]
    dsimp only
    rw [zs_W65f 8 0 z8]
    exact ⟨t.1, Or.inl ⟨rfl, zFl_of t.2.1 t.2.2 (by decide) _⟩⟩
  rcases wd with ⟨w1, w2⟩ | ⟨w1, w2, w3, w4, w5, w6⟩
  · have z8 : ¬ S1 0 8 = 0 := by rw [w2.2.1]; decide
    refine fail S1 ?_ w2 (Or.inl ?_)
    · rw [show zm_goesWell S1 = 0 from if_neg z8]
      unfold zm_name_J8
      rw [if_pos (show (0 : Int) = 0 from rfl)]
    · rw [zwe_0 (fun s => w1 ⟨s, hw s⟩)]
      omega
  · have l1 := zwe_1 w1.1
    have l2 := (zwe_r (n := n) (T := T) (a := b) (by omega)).2
    have hU1 := hU.fs w2
    have own := zs_own hU1 (by omega) (by omega) (by rw [w6, w5])
    rw [w5] at own
    have eJ := zs_nameJ w3
    rw [own, w5, w6] at eJ
    have bad : zm_name_J8 S1 (zm_goesWell S1) = zm_faults S1 1 b → zrnmB n T b (zwe n T b - b) → zNm n T p b Q S C N (zm_readsCurve_W65 N.1 N.2 8 0 N.2).2 := fun e1 hB => fail _ e1 (zs_flt w3 w2 1 b) hB
    by_cases g : zown n T b = 0
    · rw [if_pos g] at eJ
      obtain ⟨o0, o1, o2, o3⟩ := zown_0.1 g
      by_cases g2 : zwe n T b - b ≤ 6
      · rw [if_pos g2] at eJ
        rw [eJ, if_neg (show ¬ zm_goesWell S1 = 0 by rw [show zm_goesWell S1 = 1 from if_pos w3]; decide)] at eN
        obtain ⟨m, hm⟩ : ∃ m : Nat, (m : Int) = zwe n T b - b := ⟨(zwe n T b - b).toNat, by omega⟩
        have ev := zs_nameW (S := S1) w3 m 1001 0 (by omega)
        rw [show S1 0 7 + (m : Int) - 1 = S1 0 6 - 1 by omega, w5] at ev
        rw [ev] at eN
        obtain ⟨f, hf⟩ : ∃ f : Nat → Int, f = fun i : Nat => S1 1 (b + (i : Int)).toNat - 96 := ⟨_, rfl⟩
        rw [← hf] at eN
        obtain ⟨l, hll⟩ : ∃ l : Nat → Int, l = zltv n T b (zwe n T b - b) := ⟨_, rfl⟩
        have hl : ∀ i : Nat, zl0 f m i = l i := fun i => by
          rw [hll, hf]
          unfold zl0 zltv
          by_cases c : i < m
          · rw [if_pos c, if_pos (show (i : Int) < zwe n T b - b by omega)]
            show S1 1 (b + i).toNat - 96 = zby n T (b + i) - 96
            rw [hU1.2.2 (b + (i : Int)).toNat (by omega)]
            have n1 := hU.1
            unfold zby
            rw [if_pos (by omega)]
          · rw [if_neg c, if_neg (show ¬ (i : Int) < zwe n T b - b by omega)]
        have rng : ∀ i, i < 6 → 0 ≤ l i ∧ l i ≤ 31 := fun i hi => by
          rw [hll]
          unfold zltv
          by_cases c : (i : Int) < zwe n T b - b
          · rw [if_pos c]
            have := zwe_low (n := n) (T := T) (a := b + (i : Int)) (n - b).toNat b (by omega) (by omega) (show b + (i : Int) < zwe n T b by omega)
            omega
          · rw [if_neg c]
            omega
        obtain ⟨v, hv⟩ : ∃ v, v = zvl f m 0 := ⟨_, rfl⟩
        obtain ⟨vb, vd⟩ := zl5_of rng (v := v) (by rw [hv, zvl_6 f m (by omega), hl 0, hl 1, hl 2, hl 3, hl 4, hl 5])
        rw [← hv] at eN
        obtain ⟨k, hk⟩ : ∃ k : Nat, (k : Int) = Q 0 4 := ⟨(Q 0 4).toNat, by omega⟩
        obtain ⟨L, hL⟩ : ∃ L, L = zltr n T k b (zwe n T b - b) (Q 1) := ⟨_, rfl⟩
        have eL : ∀ q : Nat, L q = if 6 * k ≤ q ∧ q < 6 * k + 6 then l (q - 6 * k) else Q 1 q := fun q => by
          rw [hL, hll]
          exact zltr_e (by omega) b _ (Q 1) q
        have eC : C = if znt L k = 0 then (1, zsr (zset Qb 1 L) (b + (zwe n T b - b)) (Qb 0 1) (Qb 0 2)) else (0, zfl 3 b (zset Qb 1 L)) := by
          rw [hC]
          unfold zrnm zrnm0
          rw [z1, if_neg (show ¬ zrnmB n T b (zwe n T b - b) by unfold zrnmB; omega)]
          unfold zrnm1
          rw [z4 4 (by decide), z5 1 (by decide), ← hk, ← hL]
        have tk : ∀ c : Nat, c < k → (zalk L k c = 6 ↔ S 5 (6 + c) = v) := fun c hc => by
          obtain ⟨_, c5, c6, c7⟩ := d3 c (by omega)
          rw [zalk_6]
          have r : ∀ i : Nat, i < 6 → L ((k : Int) * 6 + i).toNat = zlt5 v (5 * i) ∧ L ((c : Int) * 6 + i).toNat = zlt5 (S 5 (6 + c)) (5 * i) := fun i hi => by
            rw [show ((k : Int) * 6 + i).toNat = 6 * k + i by omega, show ((c : Int) * 6 + i).toNat = 6 * c + i by omega, eL, eL, if_pos (by omega), if_neg (by omega), show 6 * k + i - 6 * k = i by omega, vd i hi, c5 i hi]
            exact ⟨rfl, rfl⟩
          refine ⟨fun z => zl5_inj ⟨c6, c7⟩ vb (fun i hi => ?_), fun z i hi => ?_⟩
          · have := z i hi
            rw [(r i hi).1, (r i hi).2] at this
            exact this.symm
          · rw [(r i hi).1, (r i hi).2, z]
        have nt : znt L k = 0 ↔ ∀ j : Nat, j < k → ¬ zalk L k j = 6 := by
          have := zntF_e L k ((k : Int) - 0).toNat 0
          rw [show ((k : Int) - 0).toNat = k by omega] at this
          have e9 : znt L k = zntF L k k 0 := by
            unfold znt
            rw [show ((k : Int) - 0).toNat = k by omega]
          rw [e9, this]
          exact ⟨fun z j hj => by have := z j hj; rw [show (0 : Int) + (j : Int) = j by omega] at this; exact this, fun z j hj => by rw [show (0 : Int) + (j : Int) = j by omega]; exact z j hj⟩
        have s5 : ∀ i, S1 5 i = S 5 i := fun i => w2 5 i (by omega)
        have ew := zs_W65 (z := v) (S54 := S1) k 8 0 S1 w3 (by rw [w2 0 15 (by omega), d1, ← hk]; omega) (by omega)
        have ez : zm_readsCurve_W65 v S1 8 ((0 : Nat) : Int) S1 = zm_readsCurve_W65 v S1 8 0 S1 := rfl
        rw [ez] at ew
        rw [eN]
        dsimp only
        obtain ⟨X, hX⟩ : ∃ X, X = (zm_readsCurve_W65 v S1 8 0 S1).2 := ⟨_, rfl⟩
        rw [← hX] at ew ⊢
        rcases ew with ⟨⟨c, _, c2, c3⟩, e⟩ | ⟨a, e⟩
        · rw [if_neg (fun z => nt.1 z c (by omega) ((tk c (by omega)).2 (by rw [← s5]; exact c3)))] at eC
          rw [e, eC, w5]
          have t := zs_flt w3 w2 3 b
          exact ⟨t.1, Or.inl ⟨rfl, zFl_of t.2.1 t.2.2 (by decide) _⟩⟩
        · rw [if_pos (nt.2 (fun j hj z => a j (by omega) (by omega) (by rw [s5]; exact (tk j hj).1 z)))] at eC
          obtain ⟨y1, _, _, y4, y5⟩ := zsr_0 (zset Qb 1 L) (b + (zwe n T b - b)) (Qb 0 1) (Qb 0 2)
          obtain ⟨Q', hQ'⟩ : ∃ Q', Q' = zsr (zset Qb 1 L) (b + (zwe n T b - b)) (Qb 0 1) (Qb 0 2) := ⟨_, rfl⟩
          rw [← hQ'] at eC y1 y4 y5
          rw [e, eC]
          have q0 : Q' 0 0 = zwe n T b := by rw [y1]; omega
          have qj : ∀ j, 3 ≤ j → Q' 0 j = Q 0 j := fun j hj => by rw [y4 j hj, zset_ne _ _ (by decide), z4 j hj]
          have q1 : Q' 1 = L := by rw [y5 1 (by decide), zset_self]
          refine ⟨w2, Or.inr ⟨rfl, hps.mv w2 w3 (qj 3 (by decide)) (by show S1 0 6 = Q' 0 0; rw [w6, q0]) (by show 0 ≤ Q' 0 0 ∧ Q' 0 0 ≤ n; rw [q0]; omega), by show b ≤ Q' 0 0; rw [q0]; omega, w5, qj, fun x h0 h1 => ?_, fun q hq => ?_, fun i hi => ?_, vb.1, vb.2⟩⟩
          · show Q' x = Q x
            rw [y5 x h0, zset_ne _ _ h1, z5 x h0]
          · show Q' 1 q = Q 1 q
            rw [q1, eL, if_neg (by omega)]
          · show zlt5 v (5 * i) = Q' 1 (6 * (Q 0 4).toNat + i)
            rw [q1, show (Q 0 4).toNat = k by omega, eL, if_pos (by omega), show 6 * k + i - 6 * k = i by omega, vd i hi]
      · rw [if_neg g2] at eJ
        exact bad eJ (Or.inr (Or.inl (by omega)))
    · rw [if_neg g] at eJ
      refine bad eJ ?_
      unfold zrnmB
      have := zown_0 (n := n) (T := T) (a := b)
      omega
end ZJj
