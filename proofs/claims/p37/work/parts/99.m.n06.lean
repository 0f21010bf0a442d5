section ZLm
theorem ksm_s {T : Int → Nat} {fr q : Int} (h : fr ≤ q) : ksm T fr (q + 1) = ksm T fr q + T q := by
  unfold ksm
  rw [show (q + 1 - fr).toNat = (q - fr).toNat + 1 by omega]
  show kns _ _ + T (fr + ((q - fr).toNat : Nat)) = _
  rw [show fr + (((q - fr).toNat : Nat) : Int) = q by omega]
theorem ksm_n {T : Int → Nat} {fr q : Int} (h : q < fr) : ksm T fr (q + 1) = ksm T fr q := by
  unfold ksm
  rw [show (q + 1 - fr).toNat = (q - fr).toNat by omega]
theorem ksm_add (T : Int → Nat) {a : Int} (ha : 0 ≤ a) : ∀ n : Nat, ksm T 0 (a + n) = ksm T 0 a + ksm T a (a + n)
  | 0 => by
    show ksm T 0 (a + 0) = ksm T 0 a + ksm T a (a + 0)
    rw [Int.add_zero]
    have : ksm T a a = 0 := by
      unfold ksm
      rw [Int.sub_self]
      rfl
    omega
  | n + 1 => by
    have ih := ksm_add T ha n
    rw [show a + ((n + 1 : Nat) : Int) = a + n + 1 by omega, ksm_s (by omega), ksm_s (by omega)]
    omega
/-- what the loop over the POINTS keeps -/
def zBI (T : Int → Nat) (p q near far many most first : Int) : Prop := near = ksm T 0 (min q (p * p)) ∧ far = ksm T (p * p) q ∧ many = kcnt T q.toNat ∧ most = (kmx T q.toNat).1 ∧ first = (kmx T q.toNat).2
theorem zBI.z {T : Int → Nat} {p : Int} (hp : 0 ≤ p * p) : zBI T p 0 0 0 0 0 (-1) := by
  refine ⟨?_, ?_, rfl, rfl, rfl⟩
  · rw [show min 0 (p * p) = 0 by omega]
    rfl
  · unfold ksm
    rw [show (0 - p * p).toNat = 0 by omega]
    rfl
theorem zBI.s {T : Int → Nat} {p q near far many most first : Int} (hq : 0 ≤ q) (h : zBI T p q near far many most first) : zBI T p (q + 1) (if q < p * p then near + T q else near) (if q < p * p then far else far + T q) (if 0 < T q then many + 1 else many) (if (T q : Int) ≤ most then most else T q) (if (T q : Int) ≤ most then first else q) := by
  obtain ⟨h1, h2, h3, h4, h5⟩ := h
  refine ⟨?_, ?_, ?_, ?_, ?_⟩
  · by_cases c : q < p * p
    · rw [if_pos c, show min (q + 1) (p * p) = q + 1 by omega, ksm_s hq, h1, show min q (p * p) = q by omega]
      omega
    · rw [if_neg c, show min (q + 1) (p * p) = p * p by omega, h1, show min q (p * p) = p * p by omega]
  · by_cases c : q < p * p
    · rw [if_pos c, ksm_n c, h2]
    · rw [if_neg c, ksm_s (by omega), h2]
      omega
  · rw [show (q + 1).toNat = q.toNat + 1 by omega]
    show _ = ((kcnt T q.toNat + kon T ((q.toNat : Nat) : Int) : Nat) : Int)
    rw [show ((q.toNat : Nat) : Int) = q by omega]
    unfold kon
    by_cases c : 0 < T q
    · rw [if_pos c, if_pos c, h3]
      omega
    · rw [if_neg c, if_neg c, h3]
      omega
  · rw [show (q + 1).toNat = q.toNat + 1 by omega]
    unfold kmx
    rw [show ((q.toNat : Nat) : Int) = q by omega, ← h4]
    split
    · exact h4
    · rfl
  · rw [show (q + 1).toNat = q.toNat + 1 by omega]
    unfold kmx
    rw [show ((q.toNat : Nat) : Int) = q by omega, ← h4]
    split
    · exact h5
    · rfl
theorem kM_bd {p : Int} {a b : Nat → Int} {T : Int → Nat} (hT : kM_all p a b T) : (ksm T 0 (p * p) : Int) ≤ znrP a b p ∧ znrP a b p + (ksm T (p * p) (zmany p) : Int) ≤ ztop a * ztop b := by
  obtain ⟨_, _, h1, h2⟩ := hT
  unfold ksm
  rw [kns_0, Int.sub_zero]
  refine ⟨h1, ?_⟩
  unfold zmany
  rw [show p * p + p + 1 - p * p = p + 1 by omega]
  exact h2
def kRr (p : Int) (a b : Nat → Int) (q : Int) (k : Nat) : Int := (kR p a b q).2.2.2.2.1 k
def kRs (p : Int) (a b : Nat → Int) (q : Int) : Int := (kR p a b q).2.1
theorem kRr_ok {p : Int} (hpr : zPr p) {a b : Nat → Int} (ha : zcan p a) (hb : zcan p b) (fa : 0 ≤ ztop a) (fb : 0 ≤ ztop b) {T : Int → Nat} (hT : kM_all p a b T) (q : Int) : kRr p a b q 0 = 1 ∧ kRr p a b q 0 + kRr p a b q 1 + kRr p a b q 2 + kRr p a b q 3 = kRs p a b q ∧ 1 ≤ kRs p a b q ∧ kRs p a b q ≤ 2048 := by
  obtain ⟨h1, h2, _, h4, h5⟩ := nA_rE hpr ha hb fa fb hT q (fun _ => 0)
  exact ⟨h1, h2, h4, h5⟩
theorem zP2.tp {N : zCt} {p : Int} {a b : Nat → Int} (h : zP2 N p a b) (ha : 0 ≤ ztop a) (hb : 0 ≤ ztop b) : ∀ j : Nat, (j : Int) < N.1 0 4 → 0 ≤ ztop (N.2.1 j) := fun j hj => by
  rw [h.1.2] at hj
  rcases (show j = 0 ∨ j = 1 by omega) with e | e <;> subst e
  · rw [h.2.1]
    exact ha
  · rw [h.2.2]
    exact hb
end ZLm
