section ZMk
/-- x times one letter, y times the other, one -/
def zlin3 (x y one : Int) : Nat → Int := zput (zput (zone one) 1 0 x) 0 1 y
theorem zlin3_can {p x y one : Int} (hx : 0 ≤ x ∧ x < p) (hy : 0 ≤ y ∧ y < p) (h1 : 0 ≤ one ∧ one < p) : zcan p (zlin3 x y one) := zcan_put (zcan_put (zone_can (by omega) h1) _ _ hx) _ _ hy
def zdet (nx ny : Nat → Int) (p : Int) : Int := (zat nx 1 0 * zat ny 0 1 - zat nx 0 1 * zat ny 1 0) % p
theorem zdet_rng (nx ny : Nat → Int) {p : Int} (hp : 0 < p) : 0 ≤ zdet nx ny p ∧ zdet nx ny p < p := zmr _ hp
/-- where a MOVE brings a POINT -/
def zwhL (nx ny : Nat → Int) (p x y : Int) : Int := zinv (zdet nx ny p) p * ((zat ny 0 1 * x - zat nx 0 1 * y) % p) % p
def zwhR (nx ny : Nat → Int) (p x y : Int) : Int := zinv (zdet nx ny p) p * ((zat nx 1 0 * y - zat ny 1 0 * x) % p) % p
def zwhP (z p L R : Int) : Int := if z = 1 then L * p + R else if L = 0 then p * p + p else p * p + R * zinv L p % p
def zwh (nx ny : Nat → Int) (p x y z : Int) : Int := zwhP z p (zwhL nx ny p (x - z * zat nx 0 0) (y - z * zat ny 0 0)) (zwhR nx ny p (x - z * zat nx 0 0) (y - z * zat ny 0 0))
/-- the line that is made -/
def zml (x y one p : Int) : Nat → Int := if ztop (zlin3 (x % p) (y % p) (one % p)) < 1 then zlin3 (x % p) (y % p) (one % p) else znorm (zlin3 (x % p) (y % p) (one % p)) p
theorem zml_can {x y one p : Int} (hp : 0 < p) : zcan p (zml x y one p) := by
  unfold zml
  split
  · exact zlin3_can (zmr _ hp) (zmr _ hp) (zmr _ hp)
  · exact znorm_can _ hp
def zmlb (x y one p : Int) : Int := if ztop (zlin3 (x % p) (y % p) (one % p)) < 1 then 0 else 1
/-- the DERIVATIVE -/
def zder_in (d : Nat → Int) (bx p i : Int) : Int → (Nat → Int) → (Nat → Int) := fun j c => if zat d i j * (if bx = 0 then j else i) % p = 0 then c else zput c (if bx = 0 then i else i - 1) (if bx = 0 then j - 1 else j) (zat d i j * (if bx = 0 then j else i) % p)
def zder_out (d : Nat → Int) (bx p : Int) : Int → (Nat → Int) → (Nat → Int) := fun i c => zfor (zder_in d bx p i) 0 c (4 - i + 1 - 0).toNat
def zder (d : Nat → Int) (bx p : Int) : Nat → Int := zfor (zder_out d bx p) 0 (zone 0) (5 - 0 : Int).toNat
theorem zder_can {d : Nat → Int} {bx p : Int} (hp : 0 < p) : zcan p (zder d bx p) :=
  zfor_inv (zcan p) (zone_can hp (by omega)) (fun i c hc => zfor_inv (zcan p) hc (fun j c hc => by
    show zcan p (zder_in d bx p i j c)
    unfold zder_in
    by_cases h : zat d i j * (if bx = 0 then j else i) % p = 0
    · rw [if_pos h]
      exact hc
    · rw [if_neg h]
      exact zcan_put hc _ _ (zmr _ hp)) _) _
/-- the powers of a POLYNOMIAL -/
def zpws (d : Nat → Int) (p : Int) : Nat → Nat → Int
  | 0 => zone 1
  | k + 1 => zprod (zpws d p k) d p
theorem zpws_can (d : Nat → Int) {p : Int} (hp : 2 ≤ p) : ∀ k, zcan p (zpws d p k)
  | 0 => zone_can (by omega) (by omega)
  | k + 1 => zprod_can (by omega)
/-- a CURVE with other coordinates -/
def zmvI (c : Nat → Int) (X Y : Nat → Nat → Int) (p i : Int) : Int → (Nat → Int) → (Nat → Int) := fun j r => zaddS r (zprod (X i.toNat) (Y j.toNat) p) 0 0 (zat c i j) p
def zmvO (c : Nat → Int) (X Y : Nat → Nat → Int) (p : Int) : Int → (Nat → Int) → (Nat → Int) := fun i r => zfor (zmvI c X Y p i) 0 r (4 - i + 1 - 0).toNat
def zmv (c : Nat → Int) (X Y : Nat → Nat → Int) (p : Int) : Nat → Int := zfor (zmvO c X Y p) 0 (zone 0) (5 - 0 : Int).toNat
theorem zmv_can {c : Nat → Int} {X Y : Nat → Nat → Int} {p : Int} (hp : 0 < p) : zcan p (zmv c X Y p) :=
  zfor_inv (zcan p) (zone_can hp (by omega)) (fun i r hr => zfor_inv (zcan p) hr (fun j r hr => zaddS_can hp (Int.le_refl p) hr) _) _
/-- a maker at m -/
def zMk (cI cP : ClassId) (f : Nat → va_E) (m : Nat) (p : Int) (md sc nx ny : Nat → Int) (x1 y1 z1 x2 y2 z2 : Int) (PX PY RS : Nat → Nat → Int) : Prop :=
  f m = .inr (0, [.ref (m + 1), .ref (m + 3), .ref (m + 4), .ref (m + 5), .ref (m + 6), .ref (m + 8), .ref (m + 10), .ref (m + 12), .ref (m + 13), .int (zI p)]) ∧ zPoly cI f (m + 1) md ∧ zPoly cI f (m + 6) sc ∧ zPoly cI f (m + 8) nx ∧ zPoly cI f (m + 10) ny ∧ f (m + 12) = .inr (9, [.int (zI x1), .int (zI y1), .int (zI z1)]) ∧ f (m + 13) = .inr (9, [.int (zI x2), .int (zI y2), .int (zI z2)]) ∧
  f (m + 3) = zAR cP 5 (fun k => some (m + 14 + 4 * k)) ∧ f (m + 4) = zAR cP 5 (fun k => some (m + 16 + 4 * k)) ∧ f (m + 5) = zAR cP 6 (fun k => some (m + 34 + 2 * k)) ∧ (∀ k, k < 5 → zPoly cI f (m + 14 + 4 * k) (PX k)) ∧ (∀ k, k < 5 → zPoly cI f (m + 16 + 4 * k) (PY k)) ∧ ∀ k, k < 6 → zPoly cI f (m + 34 + 2 * k) (RS k)
theorem zMk.same {cI cP : ClassId} {f g : Nat → va_E} {m : Nat} {p : Int} {md sc nx ny : Nat → Int} {x1 y1 z1 x2 y2 z2 : Int} {PX PY RS : Nat → Nat → Int} (h : zMk cI cP f m p md sc nx ny x1 y1 z1 x2 y2 z2 PX PY RS) (hs : ∀ q, m ≤ q → q < m + 46 → g q = f q) : zMk cI cP g m p md sc nx ny x1 y1 z1 x2 y2 z2 PX PY RS := by
  obtain ⟨a0, a1, a2, a3, a4, a5, a6, a7, a8, a9, a10, a11, a12⟩ := h
  exact ⟨(hs _ (by omega) (by omega)).trans a0, a1.same (hs _ (by omega) (by omega)) (hs _ (by omega) (by omega)), a2.same (hs _ (by omega) (by omega)) (hs _ (by omega) (by omega)), a3.same (hs _ (by omega) (by omega)) (hs _ (by omega) (by omega)), a4.same (hs _ (by omega) (by omega)) (hs _ (by omega) (by omega)), (hs _ (by omega) (by omega)).trans a5, (hs _ (by omega) (by omega)).trans a6, (hs _ (by omega) (by omega)).trans a7, (hs _ (by omega) (by omega)).trans a8, (hs _ (by omega) (by omega)).trans a9, fun k hk => (a10 k hk).same (hs _ (by omega) (by omega)) (hs _ (by omega) (by omega)), fun k hk => (a11 k hk).same (hs _ (by omega) (by omega)) (hs _ (by omega) (by omega)), fun k hk => (a12 k hk).same (hs _ (by omega) (by omega)) (hs _ (by omega) (by omega))⟩
/-- the TANGENT's numbers -/
def ztan (d : Nat → Int) (x y z : Int) : Int × Int × Int := if z = 1 then (zat d 1 0, zat d 0 1, -zat d 1 0 * x - zat d 0 1 * y) else if x = 1 then (-zat d 1 0 * y, zat d 1 0, zat d 0 1) else (zat d 1 0, 0, zat d 0 1)
/-- the line through two POINTS: its numbers -/
def zlt (a b p : Int) : Int × Int × Int := (zpy a p * zpz b p - zpz a p * zpy b p, zpz a p * zpx b p - zpx a p * zpz b p, zpx a p * zpy b p - zpy a p * zpx b p)
end ZMk
