section ZWr
theorem nA_on {M N : zCt} {p : Int} {a b : Nat → Int} (h : zP2 M p a b) (hp : 2 ≤ p ∧ p ≤ 31) (hN : zVE N M) {q : Int} (hq : zpt q p) {T : Int → Nat} (hT : 0 < T q ↔ zval a (zpx q p) (zpy q p) (zpz q p) p = 0 ∧ zval b (zpx q p) (zpy q p) (zpz q p) p = 0) : ∃ N', zc_areBothOn N 0 1 q = (if 0 < T q then 1 else 0, N') ∧ zVE N' M ∧ N'.1 24 = N.1 24 := by
  obtain ⟨G, hG, e1, ⟨g1, g2, g3⟩, vG, g24, hP⟩ := nA_go (h.ve hN) hp hq
  refine ⟨G, ?_, vG.tr hN, g24⟩
  unfold zc_areBothOn
  rw [e1]
  simp only [zlet_v]
  rw [← hG, if_neg (by decide), g1, g2, g3, hP.1.1, show G.2.1 (0 : Int).toNat = a from hP.2.1, show G.2.1 (1 : Int).toNat = b from hP.2.2]
  by_cases c1 : zval a (zpx q p) (zpy q p) (zpz q p) p = 0
  · rw [if_pos c1]
    by_cases c2 : zval b (zpx q p) (zpy q p) (zpz q p) p = 0
    · rw [if_pos c2, if_pos (hT.2 ⟨c1, c2⟩)]
    · rw [if_neg c2, if_neg (fun z => c2 (hT.1 z).2)]
  · rw [if_neg c1, if_neg (fun z => c1 (hT.1 z).1)]
/-- the run of the RULES at a POINT -/
def kRn (p : Int) (a b : Nat → Int) (q : Int) (ki : Nat → Int) : zRs := zrun p 2048 0 (zld (zlook a p (zpx q p) (zpy q p) (zpz q p))) (zld (zlook b p (zpx q p) (zpy q p) (zpz q p))) (fun _ => 0) ki 0
theorem nA_at {M N : zCt} {p : Int} {a b : Nat → Int} (h : zP2 M p a b) (hp : 2 ≤ p ∧ p ≤ 31) (hN : zVE N M) {k j q : Int} (hk : k = 0 ∨ k = 1) (hj : j = 0 ∨ j = 1) (hq : zpt q p) (h24 : N.1 24 = zcmP (zab a b k) (zab a b j) p) (hv : zval (zcmP (zab a b k) (zab a b j) p) (zpx q p) (zpy q p) (zpz q p) p ≠ 0) : ∃ (N' : zCt) (ki : Nat → Int), zc_timesAt N k j q = ((kRn p (zab a b k) (zab a b j) q ki).1, N') ∧ zVE N' M ∧ N'.1 24 = zcmP (zab a b k) (zab a b j) p ∧ N'.1 0 15 = (kRn p (zab a b k) (zab a b j) q ki).2.1 ∧ N'.1 25 = (kRn p (zab a b k) (zab a b j) q ki).2.2.2.2.1 ∧ N'.1 26 = (kRn p (zab a b k) (zab a b j) q ki).2.2.2.2.2 := by
  rcases zc_times_st hN (by rw [h.1.1]; exact hp) (a := k) (b := j) (pt := q) (by rw [h.1.1]; exact hq) h24 with ⟨z, _⟩ | ⟨_, N', ki, R, hR, c1, c2, c3, c4, c5, c6⟩
  · rw [h.1.1] at z
    exact absurd z hv
  · have e : R = kRn p (zab a b k) (zab a b j) q ki := by
      rw [hR]
      unfold kRn zLk
      rw [h.1.1, h.c hk, h.c hj]
    rw [e] at c1 c4 c5 c6
    exact ⟨N', ki, c1, c2, c3, c4, c5, c6⟩
theorem nA_times {M : zCt} {p : Int} {a b : Nat → Int} (h : zP2 M p a b) (hp : 2 ≤ p ∧ p ≤ 31) {k j q : Int} (hk : k = 0 ∨ k = 1) (hj : j = 0 ∨ j = 1) (hq : zpt q p) (hv : zval (zcmP (zab a b k) (zab a b j) p) (zpx q p) (zpy q p) (zpz q p) p ≠ 0) : ∃ (N' : zCt) (ki : Nat → Int), zc_times M k j q = ((kRn p (zab a b k) (zab a b j) q ki).1, N') ∧ N'.1 0 15 = (kRn p (zab a b k) (zab a b j) q ki).2.1 ∧ N'.1 25 = (kRn p (zab a b k) (zab a b j) q ki).2.2.2.2.1 ∧ N'.1 26 = (kRn p (zab a b k) (zab a b j) q ki).2.2.2.2.2 := by
  obtain ⟨N', ki, c1, c2, c3, c4, c5, c6⟩ := nA_at h hp (N := zw_common M (M.2.1 k.toNat) (M.2.1 j.toNat) (M.1 0 3)) zv_common hk hj hq (by rw [zw_common24, h.c hk, h.c hj, h.1.1]) hv
  refine ⟨N', ki, ?_, c4, c5, c6⟩
  unfold zc_times
  rw [if_pos (h.i hk), if_pos (h.i hj), bI_t (show zpt q (M.1 0 3) by rw [h.1.1]; exact hq)]
  simp only [zlet_v]
  rw [if_neg (by decide), c1]
theorem nA_times01 {M : zCt} {p : Int} {a b : Nat → Int} (h : zP2 M p a b) (hp : 2 ≤ p ∧ p ≤ 31) {T : Int → Nat} (hT : kM_all p a b T) {q : Int} (hq : zpt q p) : (zc_times M 0 1 q).1 = T q := by
  obtain ⟨N', ki, e, _⟩ := nA_times h hp (k := 0) (j := 1) (Or.inl rfl) (Or.inr rfl) hq (hT.2.1 q).1
  rw [e]
  have := (hT.1 q hq).2.2.2.1 0 (fun _ => 0) ki 0
  show (kRn p a b q ki).1 = T q
  unfold kRn
  rw [this]
  omega
theorem nA_times10 {M : zCt} {p : Int} {a b : Nat → Int} (h : zP2 M p a b) (hp : 2 ≤ p ∧ p ≤ 31) {T : Int → Nat} (hT : kM_all p a b T) {q : Int} (hq : zpt q p) : (zc_times M 1 0 q).1 = T q := by
  obtain ⟨N', ki, e, _⟩ := nA_times h hp (k := 1) (j := 0) (Or.inr rfl) (Or.inl rfl) hq (hT.2.1 q).2
  rw [e]
  have := (hT.1 q hq).2.2.2.2 0 (fun _ => 0) ki 0
  show (kRn p b a q ki).1 = T q
  unfold kRn
  rw [this]
  omega
/-- the RULES at a POINT, whatever stood there -/
def kR (p : Int) (a b : Nat → Int) (q : Int) : zRs := kRn p a b q (fun _ => 0)
theorem nA_rules {M : zCt} {p : Int} {a b : Nat → Int} (h : zP2 M p a b) (hp : 2 ≤ p ∧ p ≤ 31) {T : Int → Nat} (hT : kM_all p a b T) {q kd : Int} (hq : zpt q p) (hkd : 0 ≤ kd ∧ kd < 4) : (zc_rules M 0 1 q kd).1 = (kR p a b q).2.2.2.2.1 kd.toNat := by
  obtain ⟨N', ki, e, _, c5, _⟩ := nA_times h hp (k := 0) (j := 1) (Or.inl rfl) (Or.inr rfl) hq (hT.2.1 q).1
  have e1 := nA_times01 h hp hT hq
  rw [e] at e1
  have e1 : (kRn p a b q ki).1 = T q := e1
  have c5 : N'.1 25 = (kRn p a b q ki).2.2.2.2.1 := c5
  have e : zc_times M 0 1 q = ((kRn p a b q ki).1, N') := e
  unfold zc_rules
  rw [if_neg (by omega), if_pos hkd.2, e]
  simp only [zlet_v]
  rw [if_pos (by rw [e1]; omega), c5]
  show (kRn p a b q ki).2.2.2.2.1 kd.toNat = (kRn p a b q (fun _ => 0)).2.2.2.2.1 kd.toNat
  exact congrFun (zrun_ki 2048 0 _ _ _ ki (fun _ => 0) 0).2.2 _
theorem nA_rE {p : Int} (hpr : zPr p) {a b : Nat → Int} (ha : zcan p a) (hb : zcan p b) (fa : 0 ≤ ztop a) (fb : 0 ≤ ztop b) {T : Int → Nat} (hT : kM_all p a b T) (q : Int) (ki : Nat → Int) : (kRn p a b q ki).2.2.2.2.1 0 = 1 ∧ (kRn p a b q ki).2.2.2.2.1 0 + (kRn p a b q ki).2.2.2.2.1 1 + (kRn p a b q ki).2.2.2.2.1 2 + (kRn p a b q ki).2.2.2.2.1 3 = (kRn p a b q ki).2.1 ∧ (kRn p a b q ki).2.2.2.2.2 ((kRn p a b q ki).2.1 - 1).toNat = 0 ∧ 1 ≤ (kRn p a b q ki).2.1 ∧ (kRn p a b q ki).2.1 ≤ 2048 := by
  have zE := zr_ends hpr ha hb fa fb q (hT.2.1 q).1
  obtain ⟨a1, a2, a3, a4, a5⟩ := zrun_end 2048 2048 0 (zld (zlook a p (zpx q p) (zpy q p) (zpz q p))) (zld (zlook b p (zpx q p) (zpy q p) (zpz q p))) (fun _ => 0) ki 0 zE (Nat.le_refl _) (Int.le_refl _)
  unfold kRn
  refine ⟨a1, ?_, a3, a4, ?_⟩
  · rw [a2]
    omega
  · exact a5
theorem nA_rule {M : zCt} {p : Int} {a b : Nat → Int} (h : zP2 M p a b) (hpr : zPr p) (ha : zcan p a) (hb : zcan p b) (fa : 0 ≤ ztop a) (fb : 0 ≤ ztop b) {T : Int → Nat} (hT : kM_all p a b T) {q : Int} (hq : zpt q p) : (zc_rule M 0 1 q ((kR p a b q).2.1 - 1)).1 = 0 ∧ (zc_rule M 0 1 q (kR p a b q).2.1).1 = -1 := by
  have hp := zPr_2 hpr
  obtain ⟨N', ki, e, c4, c5, c6⟩ := nA_times h hp (k := 0) (j := 1) (Or.inl rfl) (Or.inr rfl) hq (hT.2.1 q).1
  have e1 := nA_times01 h hp hT hq
  rw [e] at e1
  have e1 : (kRn p a b q ki).1 = T q := e1
  have c4 : N'.1 0 15 = (kRn p a b q ki).2.1 := c4
  have c6 : N'.1 26 = (kRn p a b q ki).2.2.2.2.2 := c6
  have e : zc_times M 0 1 q = ((kRn p a b q ki).1, N') := e
  have es : (kR p a b q).2.1 = (kRn p a b q ki).2.1 := (zrun_ki 2048 0 _ _ _ (fun _ => 0) ki 0).2.1
  obtain ⟨_, _, a3, a4, a5⟩ := nA_rE hpr ha hb fa fb hT q ki
  rw [es]
  constructor
  · unfold zc_rule
    rw [e]
    simp only [zlet_v]
    rw [if_pos (by rw [e1]; omega), c4, if_pos (by omega), c6, a3]
  · unfold zc_rule
    rw [e]
    simp only [zlet_v]
    rw [if_pos (by rw [e1]; omega), c4, if_neg (by omega)]
theorem kns_front (t : Nat → Nat) : ∀ s, kns t (s + 1) = t 0 + kns (fun i => t (i + 1)) s
  | 0 => by
    show 0 + t 0 = t 0 + 0
    omega
  | s + 1 => by
    show kns t (s + 1) + t (s + 1) = t 0 + (kns (fun i => t (i + 1)) s + t (s + 1))
    rw [kns_front t s]
    omega
/-- a sum over POINTS, from the first one on -/
theorem kns_from (t : Int → Nat) {q to : Int} (h : q < to) : kns (fun i => t (q + (i : Nat))) (to - q).toNat = t q + kns (fun i => t (q + 1 + (i : Nat))) (to - (q + 1)).toNat := by
  rw [show (to - q).toNat = (to - (q + 1)).toNat + 1 by omega, kns_front]
  show t (q + ((0 : Nat) : Int)) + kns (fun i => t (q + ((i + 1 : Nat) : Int))) _ = _
  rw [show q + ((0 : Nat) : Int) = q by omega]
  rw [kns_congr (t := fun i => t (q + ((i + 1 : Nat) : Int))) (t' := fun i => t (q + 1 + (i : Nat))) _ (fun i _ => by
    show t (q + ((i + 1 : Nat) : Int)) = t (q + 1 + (i : Nat))
    rw [show q + ((i + 1 : Nat) : Int) = q + 1 + (i : Nat) by omega])]
theorem nL_btw {M : zCt} {p : Int} {a b : Nat → Int} (h : zP2 M p a b) (hp : 2 ≤ p ∧ p ≤ 31) {T : Int → Nat} (hT : kM_all p a b T) {to : Int} (hto : to ≤ zmany p) : ∀ (fu : Nat) (s q : Int) (N : zCt), zVE N M → N.1 24 = zcmP a b p → 0 ≤ q → q ≤ to → to - q < fu → ∃ N', zc_timesBetween_W6 0 1 to fu s q N = .inr (s + (kns (fun i => T (q + (i : Nat))) (to - q).toNat : Nat), to, N')
  | 0, s, q, N, _, _, _, h1, h2 => absurd h2 (by omega)
  | fu + 1, s, q, N, vN, h24, h0, h1, h2 => by
    unfold zc_timesBetween_W6
    by_cases c : to ≤ q
    · have : to = q := by omega
      subst this
      rw [if_pos c, show to - to = 0 by omega]
      exact ⟨N, congrArg (fun x => Sum.inr (x, to, N)) (by show s = s + ((0 : Nat) : Int); omega)⟩
    · have hq : zpt q p := ⟨h0, by omega⟩
      have hTq := hT.1 q hq
      obtain ⟨A, e1, vA, a24⟩ := nA_on h hp vN hq hTq.1
      rw [if_neg c, e1, kns_from T (by omega)]
      simp only [zlet_v]
      by_cases c2 : 0 < T q
      · rw [if_pos c2, if_neg (by decide)]
        obtain ⟨B, ki, e2, vB, b24, _⟩ := nA_at h hp vA (k := 0) (j := 1) (Or.inl rfl) (Or.inr rfl) hq (a24.trans h24) (hT.2.1 q).1
        have e2 : zc_timesAt A 0 1 q = ((kRn p a b q ki).1, B) := e2
        have e3 : (kRn p a b q ki).1 = T q := by
          have := hTq.2.2.2.1 0 (fun _ => 0) ki 0
          unfold kRn
          rw [this]
          omega
        rw [e2, e3]
        dsimp only
        rw [if_neg (by omega)]
        obtain ⟨N', e4⟩ := nL_btw h hp hT hto fu (s + T q) (q + 1) B vB b24 (by omega) (by omega) (by omega)
        refine ⟨N', e4.trans (congrArg (fun x => Sum.inr (x, to, N')) ?_)⟩
        omega
      · rw [if_neg c2, if_pos rfl]
        obtain ⟨N', e4⟩ := nL_btw h hp hT hto fu s (q + 1) A vA (a24.trans h24) (by omega) (by omega) (by omega)
        refine ⟨N', e4.trans (congrArg (fun x => Sum.inr (x, to, N')) ?_)⟩
        omega
theorem nA_btw {M N : zCt} {p : Int} {a b : Nat → Int} (h : zP2 M p a b) (hp : 2 ≤ p ∧ p ≤ 31) {T : Int → Nat} (hT : kM_all p a b T) (vN : zVE N M) (h24 : N.1 24 = zcmP a b p) {fr to : Int} (h0 : 0 ≤ fr) (h1 : fr ≤ to) (hto : to ≤ zmany p) (h9 : to ≤ 993) : (zc_timesBetween N 0 1 fr to).1 = (kns (fun i => T (fr + (i : Nat))) (to - fr).toNat : Nat) := by
  obtain ⟨N', e⟩ := nL_btw h hp hT hto 995 0 fr N vN h24 h0 h1 (by omega)
  unfold zc_timesBetween
  rw [e]
  show 0 + ((kns (fun i => T (fr + (i : Nat))) (to - fr).toNat : Nat) : Int) = _
  omega
end ZWr
