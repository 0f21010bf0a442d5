section ZWs
/-- 1 where both meet -/
def kon (T : Int → Nat) (q : Int) : Nat := if 0 < T q then 1 else 0
theorem nL_meetN {M : zCt} {p : Int} {a b : Nat → Int} (h : zP2 M p a b) (hp : 2 ≤ p ∧ p ≤ 31) {T : Int → Nat} (hT : kM_all p a b T) {what : Int} : ∀ (fu : Nat) (n q : Int) (N : zCt), zVE N M → 0 ≤ n → 0 ≤ q → q ≤ zmany p → zmany p - q < fu → ∃ N', zc_meet_W116 0 1 (-1) what (zmany p) fu n q N = .inr (n + (kns (fun i => kon T (q + (i : Nat))) (zmany p - q).toNat : Nat), zmany p, N')
  | 0, n, q, N, _, _, _, h1, h2 => absurd h2 (by omega)
  | fu + 1, n, q, N, vN, hn, h0, h1, h2 => by
    unfold zc_meet_W116
    by_cases c : zmany p ≤ q
    · have e : q = zmany p := by omega
      rw [if_pos c, show (zmany p - q).toNat = 0 by omega, e]
      exact ⟨N, congrArg (fun x => Sum.inr (x, zmany p, N)) (by show n = n + ((0 : Nat) : Int); omega)⟩
    · have hq : zpt q p := ⟨h0, by omega⟩
      have hTq := hT.1 q hq
      obtain ⟨A, e1, vA, a24⟩ := nA_on h hp vN hq hTq.1
      rw [if_neg c, e1, kns_from (kon T) (by omega)]
      simp only [zlet_v]
      by_cases c2 : 0 < T q
      · rw [if_pos c2, if_neg (by decide), if_neg (by omega)]
        obtain ⟨N', e4⟩ := nL_meetN h hp hT fu (n + 1) (q + 1) A vA (by omega) (by omega) (by omega) (by omega)
        refine ⟨N', e4.trans (congrArg (fun x => Sum.inr (x, zmany p, N')) ?_)⟩
        rw [show kon T q = 1 from if_pos c2]
        omega
      · rw [if_neg c2, if_pos rfl]
        obtain ⟨N', e4⟩ := nL_meetN h hp hT fu n (q + 1) A vA (by omega) (by omega) (by omega) (by omega)
        refine ⟨N', e4.trans (congrArg (fun x => Sum.inr (x, zmany p, N')) ?_)⟩
        rw [show kon T q = 0 from if_neg c2]
        omega
theorem nL_meetK {M : zCt} {p : Int} {a b : Nat → Int} (h : zP2 M p a b) (hp : 2 ≤ p ∧ p ≤ 31) {T : Int → Nat} (hT : kM_all p a b T) {what k r : Int} (hr : 0 < T r) (hrz : r < zmany p) : ∀ (fu : Nat) (n q : Int) (N : zCt), zVE N M → N.1 24 = zcmP a b p → 0 ≤ q → q ≤ r → n + (kns (fun i => kon T (q + (i : Nat))) (r - q).toNat : Nat) = k → zmany p - q < fu → ∃ N', zc_meet_W116 0 1 k what (zmany p) fu n q N = .inl (if what = 0 then r else (T r : Int), N')
  | 0, n, q, N, _, _, _, h1, _, h2 => absurd h2 (by omega)
  | fu + 1, n, q, N, vN, h24, h0, h1, hk, h2 => by
    unfold zc_meet_W116
    have hq : zpt q p := ⟨h0, by omega⟩
    have hTq := hT.1 q hq
    obtain ⟨A, e1, vA, a24⟩ := nA_on h hp vN hq hTq.1
    rw [if_neg (by omega), e1]
    simp only [zlet_v]
    by_cases cr : q = r
    · subst cr
      rw [show (q - q).toNat = 0 by omega] at hk
      have hk : n + ((0 : Nat) : Int) = k := hk
      rw [if_pos hr, if_neg (by decide), if_pos (by omega)]
      by_cases cw : what = 0
      · rw [if_pos cw, if_pos cw]
        exact ⟨A, rfl⟩
      · obtain ⟨B, ki, e2, vB, b24, _⟩ := nA_at h hp vA (k := 0) (j := 1) (Or.inl rfl) (Or.inr rfl) hq (a24.trans h24) (hT.2.1 q).1
        have e2 : zc_timesAt A 0 1 q = ((kRn p a b q ki).1, B) := e2
        have e3 : (kRn p a b q ki).1 = T q := by
          have := hTq.2.2.2.1 0 (fun _ => 0) ki 0
          unfold kRn
          rw [this]
          omega
        rw [if_neg cw, if_neg cw, e2, e3]
        exact ⟨B, rfl⟩
    · rw [kns_from (kon T) (by omega)] at hk
      by_cases c2 : 0 < T q
      · rw [show kon T q = 1 from if_pos c2] at hk
        rw [if_pos c2, if_neg (by decide), if_neg (by omega)]
        exact nL_meetK h hp hT hr hrz fu (n + 1) (q + 1) A vA (a24.trans h24) (by omega) (by omega) (by omega) (by omega)
      · rw [show kon T q = 0 from if_neg c2] at hk
        rw [if_neg c2, if_pos rfl]
        exact nL_meetK h hp hT hr hrz fu n (q + 1) A vA (a24.trans h24) (by omega) (by omega) (by omega) (by omega)
theorem zmany_le {p : Int} (hp : 2 ≤ p ∧ p ≤ 31) : 0 ≤ zmany p ∧ zmany p ≤ 993 ∧ p * p ≤ zmany p ∧ 0 ≤ p * p := by
  have h1 : p * p ≤ 31 * 31 := Int.mul_le_mul hp.2 hp.2 (by omega) (by decide)
  have h2 : 0 ≤ p * p := Int.mul_nonneg (by omega) (by omega)
  unfold zmany
  omega
/-- many, so far -/
def kcnt (T : Int → Nat) (q : Nat) : Nat := kns (fun i => kon T (i : Nat)) q
def ksm (T : Int → Nat) (fr q : Int) : Nat := kns (fun i => T (fr + (i : Nat))) (q - fr).toNat
theorem kns_0 (t : Int → Nat) (s : Nat) : kns (fun i => t (0 + (i : Nat))) s = kns (fun i => t (i : Nat)) s := kns_congr s (fun q _ => congrArg t (by omega))
theorem nA_meetK {M : zCt} {p : Int} {a b : Nat → Int} (h : zP2 M p a b) (hp : 2 ≤ p ∧ p ≤ 31) {T : Int → Nat} (hT : kM_all p a b T) {what : Int} (hw : what = 0 ∨ what = 1) {r : Nat} (hr : 0 < T r) (hrz : (r : Int) < zmany p) : (zc_meet M 0 1 (kcnt T r) what).1 = if what = 0 then (r : Int) else T r := by
  have hz := zmany_le hp
  obtain ⟨N', e⟩ := nL_meetK h hp hT (what := what) (k := kcnt T r) hr hrz 995 0 0 (zw_common M (M.2.1 (0 : Int).toNat) (M.2.1 (1 : Int).toNat) (M.1 0 3)) zv_common (by
    rw [zw_common24, h.1.1]
    rw [show M.2.1 (0 : Int).toNat = a from h.2.1, show M.2.1 (1 : Int).toNat = b from h.2.2]) (by omega) (by omega) (by
    show 0 + ((kns (fun i => kon T (0 + (i : Nat))) ((r : Int) - 0).toNat : Nat) : Int) = (kns (fun i => kon T (i : Nat)) r : Nat)
    rw [kns_0, show ((r : Int) - 0).toNat = r by omega]
    omega) (by omega)
  unfold zc_meet
  rw [if_pos (h.i (Or.inl rfl)), if_pos (h.i (Or.inr rfl)), if_neg (by omega), if_neg (by omega), if_pos (by omega)]
  simp only [zlet_v]
  rw [if_neg (by omega), show (zw_common M (M.2.1 (0 : Int).toNat) (M.2.1 (1 : Int).toNat) (M.1 0 3)).1 0 3 = p from (zP2.ve h zv_common).1.1, e]
  rfl
theorem nA_meetN {M : zCt} {p : Int} {a b : Nat → Int} (h : zP2 M p a b) (hp : 2 ≤ p ∧ p ≤ 31) {T : Int → Nat} (hT : kM_all p a b T) : (zc_meet M 0 1 (-1) 0).1 = (kcnt T (zmany p).toNat : Nat) ∧ (zc_meet M 0 1 (-1) 1).1 = (ksm T 0 (zmany p) : Nat) := by
  have hz := zmany_le hp
  have c24 : (zw_common M (M.2.1 (0 : Int).toNat) (M.2.1 (1 : Int).toNat) (M.1 0 3)).1 24 = zcmP a b p := by
    rw [zw_common24, h.1.1]
    rw [show M.2.1 (0 : Int).toNat = a from h.2.1, show M.2.1 (1 : Int).toNat = b from h.2.2]
  have cp : (zw_common M (M.2.1 (0 : Int).toNat) (M.2.1 (1 : Int).toNat) (M.1 0 3)).1 0 3 = p := (zP2.ve h zv_common).1.1
  constructor
  · obtain ⟨N', e⟩ := nL_meetN h hp hT (what := 0) 995 0 0 (zw_common M (M.2.1 (0 : Int).toNat) (M.2.1 (1 : Int).toNat) (M.1 0 3)) zv_common (by omega) (by omega) (by omega) (by omega)
    unfold zc_meet
    rw [if_pos (h.i (Or.inl rfl)), if_pos (h.i (Or.inr rfl)), if_neg (by omega), if_neg (by omega), if_pos (by omega)]
    simp only [zlet_v]
    rw [if_pos trivial, if_neg (by decide), cp, e]
    show 0 + ((kns (fun i => kon T (0 + (i : Nat))) (zmany p - 0).toNat : Nat) : Int) = (kns (fun i => kon T (i : Nat)) (zmany p).toNat : Nat)
    rw [kns_0, show (zmany p - 0).toNat = (zmany p).toNat by omega]
    omega
  · have e := nA_btw h hp hT (N := zw_common M (M.2.1 (0 : Int).toNat) (M.2.1 (1 : Int).toNat) (M.1 0 3)) zv_common c24 (fr := 0) (to := zmany p) (by omega) (by omega) (by omega) (by omega)
    unfold zc_meet
    rw [if_pos (h.i (Or.inl rfl)), if_pos (h.i (Or.inr rfl)), if_neg (by omega), if_neg (by omega), if_pos (by omega)]
    simp only [zlet_v]
    rw [if_pos trivial, if_pos trivial, cp]
    exact e
/-- the greatest so far, and where -/
def kmx (T : Int → Nat) : Nat → Int × Int
  | 0 => (0, -1)
  | n + 1 => if (T n : Int) ≤ (kmx T n).1 then kmx T n else (T n, n)
theorem kmx_0 (T : Int → Nat) : ∀ n, 0 ≤ (kmx T n).1
  | 0 => Int.le_refl 0
  | n + 1 => by
    unfold kmx
    split
    · exact kmx_0 T n
    · exact Int.natCast_nonneg _
theorem nL_most {M : zCt} {p : Int} {a b : Nat → Int} (h : zP2 M p a b) (hp : 2 ≤ p ∧ p ≤ 31) {T : Int → Nat} (hT : kM_all p a b T) {what : Int} {Z : Nat} (hZ : (Z : Int) = zmany p) : ∀ (fu : Nat) (q : Nat) (N : zCt), zVE N M → N.1 24 = zcmP a b p → q ≤ Z → Z - q < fu → ∃ N', zc_most_W81 0 1 what (zmany p) fu (kmx T q).1 (kmx T q).2 q N = .inr ((kmx T Z).1, (kmx T Z).2, (Z : Int), N')
  | 0, q, N, _, _, _, h2 => absurd h2 (by omega)
  | fu + 1, q, N, vN, h24, h1, h2 => by
    unfold zc_most_W81
    by_cases c : zmany p ≤ (q : Int)
    · have e : q = Z := by omega
      rw [if_pos c, e]
      exact ⟨N, rfl⟩
    · have hq : zpt (q : Int) p := ⟨by omega, by omega⟩
      have hTq := hT.1 q hq
      have k0 := kmx_0 T q
      obtain ⟨A, e1, vA, a24⟩ := nA_on h hp vN hq hTq.1
      rw [if_neg c, e1]
      simp only [zlet_v]
      have nx : ∀ N1, zVE N1 M → N1.1 24 = zcmP a b p → ∃ N', zc_most_W81 0 1 what (zmany p) fu (kmx T (q + 1)).1 (kmx T (q + 1)).2 ((q : Int) + 1) N1 = .inr ((kmx T Z).1, (kmx T Z).2, (Z : Int), N') := fun N1 v1 h1 => nL_most h hp hT hZ fu (q + 1) N1 v1 h1 (by omega) (by omega)
      by_cases c2 : 0 < T q
      · rw [if_pos c2, if_neg (by decide)]
        obtain ⟨B, ki, e2, vB, b24, _⟩ := nA_at h hp vA (k := 0) (j := 1) (Or.inl rfl) (Or.inr rfl) hq (a24.trans h24) (hT.2.1 q).1
        have e2 : zc_timesAt A 0 1 q = ((kRn p a b q ki).1, B) := e2
        have e3 : (kRn p a b q ki).1 = T q := by
          have := hTq.2.2.2.1 0 (fun _ => 0) ki 0
          unfold kRn
          rw [this]
          omega
        rw [e2, e3]
        dsimp only
        rw [if_neg (by omega)]
        obtain ⟨N', e4⟩ := nx B vB b24
        by_cases c3 : (T q : Int) ≤ (kmx T q).1
        · rw [if_pos c3]
          rw [show kmx T (q + 1) = kmx T q from if_pos c3] at e4
          exact ⟨N', e4⟩
        · rw [if_neg c3]
          rw [show kmx T (q + 1) = ((T q : Int), (q : Int)) from if_neg c3] at e4
          exact ⟨N', e4⟩
      · rw [if_neg c2, if_pos rfl, if_pos k0]
        obtain ⟨N', e4⟩ := nx A vA (a24.trans h24)
        rw [show kmx T (q + 1) = kmx T q from if_pos (by omega)] at e4
        exact ⟨N', e4⟩
theorem nA_most {M : zCt} {p : Int} {a b : Nat → Int} (h : zP2 M p a b) (hp : 2 ≤ p ∧ p ≤ 31) {T : Int → Nat} (hT : kM_all p a b T) : (zc_most M 0 1 0).1 = (kmx T (zmany p).toNat).1 ∧ (zc_most M 0 1 1).1 = (kmx T (zmany p).toNat).2 := by
  have hz := zmany_le hp
  have c24 : (zw_common M (M.2.1 (0 : Int).toNat) (M.2.1 (1 : Int).toNat) (M.1 0 3)).1 24 = zcmP a b p := by
    rw [zw_common24, h.1.1]
    rw [show M.2.1 (0 : Int).toNat = a from h.2.1, show M.2.1 (1 : Int).toNat = b from h.2.2]
  have cp : (zw_common M (M.2.1 (0 : Int).toNat) (M.2.1 (1 : Int).toNat) (M.1 0 3)).1 0 3 = p := (zP2.ve h zv_common).1.1
  have key : ∀ what, ∃ N', zc_most_W81 0 1 what (zmany p) 995 0 (-1) 0 (zw_common M (M.2.1 (0 : Int).toNat) (M.2.1 (1 : Int).toNat) (M.1 0 3)) = .inr ((kmx T (zmany p).toNat).1, (kmx T (zmany p).toNat).2, (((zmany p).toNat : Nat) : Int), N') := fun what => nL_most h hp hT (what := what) (Z := (zmany p).toNat) (by omega) 995 0 (zw_common M (M.2.1 (0 : Int).toNat) (M.2.1 (1 : Int).toNat) (M.1 0 3)) zv_common c24 (by omega) (by omega)
  constructor
  · obtain ⟨N', e⟩ := key 0
    unfold zc_most
    rw [if_pos (h.i (Or.inl rfl)), if_pos (h.i (Or.inr rfl)), if_neg (by decide), if_pos (by decide)]
    simp only [zlet_v]
    rw [cp, e]
    rfl
  · obtain ⟨N', e⟩ := key 1
    unfold zc_most
    rw [if_pos (h.i (Or.inl rfl)), if_pos (h.i (Or.inr rfl)), if_neg (by decide), if_pos (by decide)]
    simp only [zlet_v]
    rw [cp, e]
    rfl
end ZWs
