section ZFa
/-- the matrix of the model -/
def zMx (X : zS2) (r c : Nat) : Int := X 14 (30 * r + c)
def zMc (X : zS2) (p : Int) : Prop := ∀ r c : Nat, r < 45 → c < 30 → 0 ≤ zMx X r c ∧ zMx X r c < p
/-- all but the matrix -/
def zMf (X Y : zS2) : Prop := ∀ a i : Nat, a ≠ 14 → Y a i = X a i
theorem zm_swap {X : zS2} {a b many : Nat} (ha : a < 45) (hb : b < 45) (hm : many ≤ 30) : zMf X (zm_swapsRows X a b many) ∧ ∀ r k : Nat, r < 45 → k < 30 → zMx (zm_swapsRows X a b many) r k = if k < many then (if r = a then zMx X b k else if r = b then zMx X a k else zMx X r k) else zMx X r k := by
  show zMf X (zfor (zm_swapsRows_L3 a b) 0 X (((many : Int) - 1) + 1 - 0).toNat) ∧ ∀ r k : Nat, r < 45 → k < 30 → zMx (zfor (zm_swapsRows_L3 a b) 0 X (((many : Int) - 1) + 1 - 0).toNat) r k = _
  rw [show (((many : Int) - 1) + 1 - 0).toNat = many by omega]
  refine zfor_ix (I := fun n Y => zMf X Y ∧ ∀ r k : Nat, r < 45 → k < 30 → zMx Y r k = if k < n then (if r = a then zMx X b k else if r = b then zMx X a k else zMx X r k) else zMx X r k) ⟨fun _ _ _ => rfl, fun r k _ _ => by rw [if_neg (Nat.not_lt_zero _)]⟩ many (fun n Y hn hY => ?_)
  obtain ⟨h1, h2⟩ := hY
  have e : zm_swapsRows_L3 a b (0 + (n : Int)) Y = za (za Y 14 (30 * a + n) (Y 14 (30 * b + n))) 14 (30 * b + n) (Y 14 (30 * a + n)) := by
    unfold zm_swapsRows_L3
    dsimp only
    rw [zlet_v, zlet_v, show ((30 * (a : Int)) + (0 + (n : Int))).toNat = 30 * a + n by omega, show ((30 * (b : Int)) + (0 + (n : Int))).toNat = 30 * b + n by omega]
  rw [e]
  refine ⟨fun x i hx => by rw [za_ne (by omega), za_ne (by omega)]; exact h1 x i hx, fun r k hr hk => ?_⟩
  have ea := h2 a n ha (by omega)
  have eb := h2 b n hb (by omega)
  rw [if_neg (Nat.lt_irrefl _)] at ea eb
  unfold zMx at ea eb h2 ⊢
  by_cases q : 30 * r + k = 30 * b + n
  · have q1 : r = b := by omega
    have q2 : k = n := by omega
    rw [q, za_same, ea, q2, if_pos (by omega)]
    by_cases z : r = a
    · rw [if_pos z, ← z, q1]
    · rw [if_neg z, if_pos q1]
  · rw [za_ne (fun z => q z.2)]
    by_cases q3 : 30 * r + k = 30 * a + n
    · have q1 : r = a := by omega
      have q2 : k = n := by omega
      rw [q3, za_same, eb, q2, if_pos (by omega), if_pos q1]
    · rw [za_ne (fun z => q3 z.2), h2 r k hr hk]
      by_cases l : k < n
      · rw [if_pos l, if_pos (show k < n + 1 by omega)]
      · rw [if_neg l]
        by_cases l2 : k < n + 1
        · rw [if_pos l2, if_neg (show ¬ r = a by omega), if_neg (show ¬ r = b by omega)]
        · rw [if_neg l2]
theorem zm_scale {X : zS2} {p z : Int} {d many : Nat} (hp : 0 < p) (hX : X 0 10 = p) (hd : d < 45) (hm : many ≤ 30) (hc : zMc X p) (hz : 0 ≤ z) : zMf X (zfor (zm_solves_L88 d z) 0 X many) ∧ ∀ r k : Nat, r < 45 → k < 30 → zMx (zfor (zm_solves_L88 d z) 0 X many) r k = if r = d ∧ k < many then (zMx X r k * z) % p else zMx X r k := by
  refine zfor_ix (I := fun n Y => zMf X Y ∧ ∀ r k : Nat, r < 45 → k < 30 → zMx Y r k = if r = d ∧ k < n then (zMx X r k * z) % p else zMx X r k) ⟨fun _ _ _ => rfl, fun r k _ _ => by rw [if_neg (by omega)]⟩ many (fun n Y hn hY => ?_)
  obtain ⟨h1, h2⟩ := hY
  have en := h2 d n hd (by omega)
  rw [if_neg (by omega)] at en
  have e : zm_solves_L88 d z (0 + (n : Int)) Y = za Y 14 (30 * d + n) ((zMx X d n * z) % p) := by
    unfold zm_solves_L88
    dsimp only
    rw [zlet_v, show ((30 * (d : Int)) + (0 + (n : Int))).toNat = 30 * d + n by omega, h1 0 10 (by decide), hX]
    unfold zMx at en
    have nn : 0 ≤ X 14 (30 * d + n) * z := Int.mul_nonneg (hc d n hd (by omega)).1 hz
    rw [en, Int.tmod_eq_emod_of_nonneg nn]
    rfl
  rw [e]
  refine ⟨fun x i hx => by rw [za_ne (by omega)]; exact h1 x i hx, fun r k hr hk => ?_⟩
  have g := h2 r k hr hk
  unfold zMx at g ⊢
  by_cases q : 30 * r + k = 30 * d + n
  · have q1 : r = d := by omega
    have q2 : k = n := by omega
    rw [q, za_same, q1, q2, if_pos (by omega)]
  · rw [za_ne (fun z => q z.2), g]
    by_cases l : r = d ∧ k < n
    · rw [if_pos l, if_pos (by omega)]
    · rw [if_neg l, if_neg (by omega)]
theorem zm_elim1 {X Y0 : zS2} {p : Int} {c d o many : Nat} (hp : 0 < p) (hX : Y0 0 10 = p) (ho : o < 45) (hd : d < 45) (hod : o ≠ d) (hm : many ≤ 30) : zMf Y0 (zfor (zm_solves_L173 c d o X) 0 Y0 many) ∧ ∀ r k : Nat, r < 45 → k < 30 → zMx (zfor (zm_solves_L173 c d o X) 0 Y0 many) r k = if r = o ∧ k < many then (zMx Y0 o k - zMx X o c * zMx Y0 d k) % p else zMx Y0 r k := by
  refine zfor_ix (I := fun n Y => zMf Y0 Y ∧ ∀ r k : Nat, r < 45 → k < 30 → zMx Y r k = if r = o ∧ k < n then (zMx Y0 o k - zMx X o c * zMx Y0 d k) % p else zMx Y0 r k) ⟨fun _ _ _ => rfl, fun r k _ _ => by rw [if_neg (by omega)]⟩ many (fun n Y hn hY => ?_)
  obtain ⟨h1, h2⟩ := hY
  have en := h2 o n ho (by omega)
  have ed := h2 d n hd (by omega)
  rw [if_neg (by omega)] at en ed
  have e : zm_solves_L173 c d o X (0 + (n : Int)) Y = za Y 14 (30 * o + n) ((zMx Y0 o n - zMx X o c * zMx Y0 d n) % p) := by
    unfold zm_solves_L173
    dsimp only
    rw [zlet_v, zlet_v, show ((30 * (o : Int)) + (0 + (n : Int))).toNat = 30 * o + n by omega, show ((30 * (d : Int)) + (0 + (n : Int))).toNat = 30 * d + n by omega, show ((30 * (o : Int)) + (c : Int)).toNat = 30 * o + c by omega, zB_mod (by rw [h1 0 10 (by decide), hX]) hp]
    unfold zMx at en ed ⊢
    rw [en, ed]
  rw [e]
  refine ⟨fun x i hx => by rw [za_ne (by omega)]; exact h1 x i hx, fun r k hr hk => ?_⟩
  have g := h2 r k hr hk
  by_cases q : r = o ∧ k = n
  · rw [q.1, q.2, if_pos (by omega)]
    exact za_same
  · have e2 : zMx (za Y 14 (30 * o + n) ((zMx Y0 o n - zMx X o c * zMx Y0 d n) % p)) r k = zMx Y r k := za_ne (by omega)
    rw [e2, g]
    by_cases l : r = o ∧ k < n
    · rw [if_pos l, if_pos (by omega)]
    · rw [if_neg l, if_neg (by omega)]
theorem zm_elim {X : zS2} {p : Int} {c d eqs many : Nat} (hp : 0 < p) (hX : X 0 10 = p) (hd : d < 45) (he : eqs ≤ 45) (hm : many ≤ 30) (hcan : zMc X p) (hcm : c < many) : zMf X (zfor (zm_solves_L135 many c d) 0 X eqs) ∧ ∀ r k : Nat, r < 45 → k < 30 → zMx (zfor (zm_solves_L135 many c d) 0 X eqs) r k = if r < eqs ∧ r ≠ d ∧ k < many then (zMx X r k - zMx X r c * zMx X d k) % p else zMx X r k := by
  refine zfor_ix (I := fun n Y => zMf X Y ∧ ∀ r k : Nat, r < 45 → k < 30 → zMx Y r k = if r < n ∧ r ≠ d ∧ k < many then (zMx X r k - zMx X r c * zMx X d k) % p else zMx X r k) ⟨fun _ _ _ => rfl, fun r k _ _ => by rw [if_neg (by omega)]⟩ eqs (fun n Y hn hY => ?_)
  obtain ⟨h1, h2⟩ := hY
  rw [show 0 + (n : Int) = (n : Int) by omega]
  have en : ∀ k, k < 30 → zMx Y n k = zMx X n k := fun k hk => by rw [h2 n k (by omega) hk, if_neg (by omega)]
  have ed : ∀ k, k < 30 → zMx Y d k = zMx X d k := fun k hk => by rw [h2 d k hd hk, if_neg (by omega)]
  by_cases q : n = d
  · have e : zm_solves_L135 many c d n Y = Y := by
      unfold zm_solves_L135
      dsimp only
      rw [if_pos (by omega)]
    rw [e]
    refine ⟨h1, fun r k hr hk => ?_⟩
    rw [h2 r k hr hk]
    by_cases l : r < n ∧ r ≠ d ∧ k < many
    · rw [if_pos l, if_pos (by omega)]
    · rw [if_neg l, if_neg (by omega)]
  · by_cases q0 : zMx Y n c = 0
    · have e : zm_solves_L135 many c d n Y = Y := by
        unfold zm_solves_L135
        dsimp only
        rw [if_neg (by omega), show ((30 * (n : Int)) + (c : Int)).toNat = 30 * n + c by omega, if_pos (show Y 14 (30 * n + c) = 0 from q0)]
      rw [e]
      refine ⟨h1, fun r k hr hk => ?_⟩
      rw [h2 r k hr hk]
      by_cases l : r < n ∧ r ≠ d ∧ k < many
      · rw [if_pos l, if_pos (by omega)]
      · rw [if_neg l]
        by_cases l2 : r < n + 1 ∧ r ≠ d ∧ k < many
        · rw [if_pos l2, show r = n by omega]
          rw [en c (by omega)] at q0
          rw [q0, Int.zero_mul, Int.sub_zero, Int.emod_eq_of_lt (hcan n k (by omega) hk).1 (hcan n k (by omega) hk).2]
        · rw [if_neg l2]
    · have e : zm_solves_L135 many c d n Y = zfor (zm_solves_L173 c d n Y) 0 Y many := by
        unfold zm_solves_L135
        dsimp only
        rw [if_neg (by omega), show ((30 * (n : Int)) + (c : Int)).toNat = 30 * n + c by omega, if_neg (show ¬ Y 14 (30 * n + c) = 0 from q0), zlet_v, show (((many : Int) - 1) + 1 - 0).toNat = many by omega]
      obtain ⟨g1, g2⟩ := zm_elim1 (X := Y) (Y0 := Y) (p := p) (c := c) (d := d) (o := n) (many := many) hp (by rw [h1 0 10 (by decide), hX]) (by omega) hd q hm
      rw [e]
      refine ⟨fun x i hx => by rw [g1 x i hx, h1 x i hx], fun r k hr hk => ?_⟩
      rw [g2 r k hr hk]
      by_cases l : r = n ∧ k < many
      · rw [if_pos l, if_pos (by omega), en k hk, en c (by omega), ed k hk, l.1]
      · rw [if_neg l, h2 r k hr hk]
        by_cases l2 : r < n ∧ r ≠ d ∧ k < many
        · rw [if_pos l2, if_pos (by omega)]
        · rw [if_neg l2, if_neg (by omega)]
theorem zm_find (X : zS2) (eqs c : Nat) : ∀ (fu r : Nat), r ≤ eqs → eqs < r + fu → ∃ q : Nat, zm_solves_W22 eqs c X fu r = q ∧ r ≤ q ∧ q ≤ eqs ∧ (∀ k, r ≤ k → k < q → zMx X k c = 0) ∧ (q < eqs → zMx X q c ≠ 0)
  | 0, r, h1, h2 => by omega
  | fu + 1, r, h1, h2 => by
    have e : zm_solves_W22 eqs c X (fu + 1) r = (if (eqs : Int) ≤ (r : Int) then (r : Int) else (if X 14 (((30 * (r : Int)) + (c : Int)).toNat) = 0 then zm_solves_W22 eqs c X fu ((r : Int) + 1) else (r : Int))) := rfl
    rw [e, show ((30 * (r : Int)) + (c : Int)).toNat = 30 * r + c by omega]
    by_cases q : r = eqs
    · rw [if_pos (by omega)]
      exact ⟨r, rfl, Nat.le_refl _, h1, fun k a b => by omega, fun z => by omega⟩
    · rw [if_neg (by omega)]
      by_cases z : X 14 (30 * r + c) = 0
      · rw [if_pos z, show (r : Int) + 1 = ((r + 1 : Nat) : Int) by omega]
        obtain ⟨q2, a1, a2, a3, a4, a5⟩ := zm_find X eqs c fu (r + 1) (by omega) (by omega)
        refine ⟨q2, a1, by omega, a3, fun k b1 b2 => ?_, a5⟩
        by_cases e2 : k = r
        · rw [e2]; exact z
        · exact a4 k (by omega) b2
      · rw [if_neg z]
        exact ⟨r, rfl, Nat.le_refl _, h1, fun k a b => by omega, fun _ => z⟩
end ZFa
