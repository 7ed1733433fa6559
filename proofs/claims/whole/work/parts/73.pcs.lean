/-! ===== pieces: what they are, and how both sides add one ===== -/
abbrev Pc : Type := Nat × (Nat → Int32) × (Nat → Int32)
def nc (k : Nat) : Nat := if k = 3 then 1 else if k = 2 then 3 else 4
def f4 (a b c d : Int32) : Nat → Int32 := fun i => if i = 0 then a else if i = 1 then b else if i = 2 then c else d
def HoP (l : List Pc) (K X Y : Nat → Int32) : Prop := ∀ (i : Nat) (q : Pc), l[i]? = some q → q.1 ≤ 4 ∧ K i = nI q.1 ∧ ∀ c, c < nc q.1 → X (4 * i + c) = q.2.1 c ∧ Y (4 * i + c) = q.2.2 c
def HoQ (l : List Pc) (R : Nat → Int32) : Prop := ∀ (i : Nat) (q : Pc), l[i]? = some q → q.1 ≤ 4 ∧ R (9 * i) = nI q.1 ∧ ∀ c, c < nc q.1 → R (9 * i + 1 + 2 * c) = q.2.1 c ∧ R (9 * i + 2 + 2 * c) = q.2.2 c
theorem nc_le (k : Nat) : nc k ≤ 4 := by
  unfold nc
  by_cases h : k = 3
  · rw [if_pos h]; omega
  · rw [if_neg h]
    by_cases h2 : k = 2
    · rw [if_pos h2]; omega
    · rw [if_neg h2]; omega
theorem HoP.nx {l : List Pc} {K X Y K' X' Y' : Nat → Int32} (h : HoP l K X Y) (q : Pc) (hq : q.1 ≤ 4) (h1 : K' l.length = nI q.1) (h2 : ∀ c, c < nc q.1 → X' (4 * l.length + c) = q.2.1 c ∧ Y' (4 * l.length + c) = q.2.2 c)
    (h3 : ∀ i, i < l.length → K' i = K i) (h4 : ∀ i, i < 4 * l.length → X' i = X i ∧ Y' i = Y i) : HoP (l ++ [q]) K' X' Y' := by
  intro i r hr
  rcases hx_ap hr with ⟨g1, g2⟩ | ⟨rfl, rfl⟩
  · obtain ⟨a0, a1, a2⟩ := h i r g2
    have := nc_le r.1
    refine ⟨a0, by rw [h3 i g1]; exact a1, fun c hc => ?_⟩
    rw [(h4 _ (by omega)).1, (h4 _ (by omega)).2]; exact a2 c hc
  · exact ⟨hq, h1, h2⟩
theorem HoQ.nx {l : List Pc} {R R' : Nat → Int32} (h : HoQ l R) (q : Pc) (hq : q.1 ≤ 4) (h1 : R' (9 * l.length) = nI q.1) (h2 : ∀ c, c < nc q.1 → R' (9 * l.length + 1 + 2 * c) = q.2.1 c ∧ R' (9 * l.length + 2 + 2 * c) = q.2.2 c)
    (h3 : ∀ i, i < 9 * l.length → R' i = R i) : HoQ (l ++ [q]) R' := by
  intro i r hr
  rcases hx_ap hr with ⟨g1, g2⟩ | ⟨rfl, rfl⟩
  · obtain ⟨a0, a1, a2⟩ := h i r g2
    have := nc_le r.1
    refine ⟨a0, by rw [h3 _ (by omega)]; exact a1, fun c hc => ?_⟩
    rw [h3 _ (by omega), h3 _ (by omega)]; exact a2 c hc
  · exact ⟨hq, h1, h2⟩
/-! the class -/
theorem pst_c {i k : Nat} {w : Int32} {K : Nat → Int32} (hi : i < 2800) : F_X7_start (nI i) w K (nI k) = some (nI (i + 1), 0, upd K i (nI k)) := by
  unfold F_X7_start
  rw [if_neg (nI_pos (by omega)), if_neg (show ¬ (2800 : Int32) ≤ nI i from nI_ge (b := 2800) hi (by decide)), gd_in hi (by decide), nI_clamp (by omega), lt_eq, lt_eq, zl_1, nI_add]
theorem pco_c {i c : Nat} {x y : Int32} {X Y : Nat → Int32} (hi : i < 2800) (hc : c < 4) : F_X7_addCorner (nI (i + 1)) (nI c) X Y x y = some (nI (c + 1), upd X (4 * i + c) x, upd Y (4 * i + c) y) := by
  unfold F_X7_addCorner
  rw [nI_pred, zl_4, pk_mul, nI_add, lt_eq, if_neg (nI_ge hc (by omega)), if_neg (nI_pos (by omega)), if_neg (show ¬ (11200 : Int32) ≤ nI (4 * i + c) from nI_ge (b := 11200) (by omega) (by decide)), gd_in (by omega) (by decide)]
  simp only [lt_eq, gd_in (show 4 * i + c < 11200 by omega) (by decide), nI_clamp (show 4 * i + c < 2 ^ 31 by omega), zl_1, nI_add]
/-- a disc -/
def dsP (x y : Int32) : Pc := (3, fun _ => x, fun _ => y)
theorem nc3 : nc 3 = 1 := rfl
theorem nc2 : nc 2 = 3 := rfl
theorem dis_c {l : List Pc} {K X Y : Nat → Int32} {w x y : Int32} (hl : l.length < 2800) (h : HoP l K X Y) : ∃ w' K' X' Y', F_X10_addDisc (nI l.length) w K X Y x y = some (nI (l ++ [dsP x y]).length, w', K', X', Y') ∧ HoP (l ++ [dsP x y]) K' X' Y' := by
  refine ⟨nI 1, upd K l.length (nI 3), upd X (4 * l.length + 0) x, upd Y (4 * l.length + 0) y, ?_, h.nx (dsP x y) (by show 3 ≤ 4; omega) (ud_e rfl) (fun c hc => ?_) (fun i hi => ud_n (by omega)) (fun i hi => ⟨ud_n (by omega), ud_n (by omega)⟩)⟩
  · unfold F_X10_addDisc
    rw [zl_3, pst_c hl, obd_s]
    show obd (F_X7_addCorner (nI (l.length + 1)) (nI 0) X Y x y) _ = _
    rw [pco_c hl (by omega), obd_s, List.length_append]; rfl
  · have hc : c < 1 := hc
    rw [ud_e (by omega), ud_e (by omega)]; exact ⟨rfl, rfl⟩
/-- four corners in the class -/
theorem four_c {i k : Nat} {w x0 y0 x1 y1 x2 y2 x3 y3 : Int32} {K X Y : Nat → Int32} {l : List Pc} (hl : l.length < 2800) (hi : i = l.length) (h : HoP l K X Y) (hk : k ≤ 4) (hk2 : k ≠ 2 ∧ k ≠ 3) :
    ∃ K' X' Y', obd (F_X7_start (nI i) w K (nI k)) (fun u => obd (F_X7_addCorner u.1 u.2.1 X Y x0 y0) (fun u_4 => obd (F_X7_addCorner u.1 u_4.1 u_4.2.1 u_4.2.2 x1 y1) (fun u_5 => obd (F_X7_addCorner u.1 u_5.1 u_5.2.1 u_5.2.2 x2 y2) (fun u_6 => obd (F_X7_addCorner u.1 u_6.1 u_6.2.1 u_6.2.2 x3 y3) (fun u_7 => some (u.1, u_7.1, u.2.2, u_7.2.1, u_7.2.2)))))) =
      some (nI (l ++ [((k, f4 x0 x1 x2 x3, f4 y0 y1 y2 y3) : Pc)]).length, nI 4, K', X', Y') ∧ HoP (l ++ [(k, f4 x0 x1 x2 x3, f4 y0 y1 y2 y3)]) K' X' Y' := by
  subst hi
  refine ⟨upd K l.length (nI k), upd (upd (upd (upd X (4 * l.length + 0) x0) (4 * l.length + 1) x1) (4 * l.length + 2) x2) (4 * l.length + 3) x3, upd (upd (upd (upd Y (4 * l.length + 0) y0) (4 * l.length + 1) y1) (4 * l.length + 2) y2) (4 * l.length + 3) y3, ?_, h.nx _ hk (ud_e rfl) (fun c hc => ?_) (fun i hi => ud_n (by omega)) (fun i hi => ?_)⟩
  · rw [pst_c hl, obd_s]
    show obd (F_X7_addCorner (nI (l.length + 1)) (nI 0) X Y x0 y0) _ = _
    rw [pco_c hl (by omega), obd_s]
    show obd (F_X7_addCorner (nI (l.length + 1)) (nI 1) _ _ x1 y1) _ = _
    rw [pco_c hl (by omega), obd_s]
    show obd (F_X7_addCorner (nI (l.length + 1)) (nI 2) _ _ x2 y2) _ = _
    rw [pco_c hl (by omega), obd_s]
    show obd (F_X7_addCorner (nI (l.length + 1)) (nI 3) _ _ x3 y3) _ = _
    rw [pco_c hl (by omega), obd_s, List.length_append]; rfl
  · have hc : c < nc k := hc
    have : nc k = 4 := by unfold nc; rw [if_neg hk2.2, if_neg hk2.1]
    have hc4 : c = 0 ∨ c = 1 ∨ c = 2 ∨ c = 3 := by omega
    rcases hc4 with rfl | rfl | rfl | rfl <;> simp (disch := omega) only [ud_n, ud_e] <;> exact ⟨rfl, rfl⟩
  · simp (disch := omega) only [ud_n]; exact ⟨trivial, trivial⟩
/-! the reference -/
theorem zl_9 : (9 : Int32) = nI 9 := rfl
theorem qst_m {i k : Nat} {R : Nat → Int32} (hi : i < 2800) : F_X12_begin (nI i) R (nI k) = some (nI (i + 1), upd R (9 * i) (nI k)) := by
  unfold F_X12_begin
  rw [zl_9, pk_mul, lt_eq, gd_in (by omega) (by decide), nI_clamp (by omega), lt_eq, lt_eq, zl_1, nI_add]
theorem qco_m {i c : Nat} {x y : Int32} {R : Nat → Int32} (hi : i < 2800) (hc : c < 4) : F_X12_corners (nI (i + 1)) R (nI c) x y = some (upd (upd R (9 * i + 1 + 2 * c) x) (9 * i + 2 + 2 * c) y) := by
  unfold F_X12_corners
  rw [zl_9, pk_mul, zl_8, pk_sub (by omega), zl_2, pk_mul, nI_add, zl_7, pk_sub (by omega), nI_add, lt_eq, gd_in (by omega) (by decide), nI_clamp (by omega), lt_eq, lt_eq, gd_in (by omega) (by decide), nI_clamp (by omega), lt_eq, show 9 * (i + 1) - 8 + 2 * c = 9 * i + 1 + 2 * c from by omega, show 9 * (i + 1) - 7 + 2 * c = 9 * i + 2 + 2 * c from by omega]
theorem dis_m {l : List Pc} {R : Nat → Int32} {x y : Int32} (hl : l.length < 2800) (h : HoQ l R) : ∃ R', F_X12_laysDisc (nI l.length) R x y = some (nI (l ++ [dsP x y]).length, R') ∧ HoQ (l ++ [dsP x y]) R' := by
  refine ⟨upd (upd (upd R (9 * l.length) (nI 3)) (9 * l.length + 1 + 2 * 0) x) (9 * l.length + 2 + 2 * 0) y, ?_, h.nx (dsP x y) (by show 3 ≤ 4; omega) ?_ (fun c hc => ?_) (fun i hi => ?_)⟩
  · unfold F_X12_laysDisc
    rw [zl_3, qst_m hl, obd_s]
    show obd (F_X12_corners (nI (l.length + 1)) _ (nI 0) x y) _ = _
    rw [qco_m hl (by omega), obd_s, List.length_append]; rfl
  · simp (disch := omega) only [ud_n, ud_e]; rfl
  · have hc : c < 1 := hc
    have : c = 0 := by omega
    subst this
    simp (disch := omega) only [ud_n, ud_e]
    exact ⟨rfl, rfl⟩
  · simp (disch := omega) only [ud_n]
theorem four_m {i k : Nat} {x0 y0 x1 y1 x2 y2 x3 y3 : Int32} {R : Nat → Int32} {l : List Pc} (hl : l.length < 2800) (hi : i = l.length) (h : HoQ l R) (hk : k ≤ 4) (hk2 : k ≠ 2 ∧ k ≠ 3) :
    ∃ R', obd (F_X12_begin (nI i) R (nI k)) (fun u => obd (F_X12_corners u.1 u.2 0 x0 y0) (fun u_4 => obd (F_X12_corners u.1 u_4 1 x1 y1) (fun u_5 => obd (F_X12_corners u.1 u_5 2 x2 y2) (fun u_6 => obd (F_X12_corners u.1 u_6 3 x3 y3) (fun u_7 => some (u.1, u_7)))))) =
      some (nI (l ++ [((k, f4 x0 x1 x2 x3, f4 y0 y1 y2 y3) : Pc)]).length, R') ∧ HoQ (l ++ [(k, f4 x0 x1 x2 x3, f4 y0 y1 y2 y3)]) R' := by
  subst hi
  refine ⟨upd (upd (upd (upd (upd (upd (upd (upd (upd R (9 * l.length) (nI k)) (9 * l.length + 1 + 2 * 0) x0) (9 * l.length + 2 + 2 * 0) y0) (9 * l.length + 1 + 2 * 1) x1) (9 * l.length + 2 + 2 * 1) y1) (9 * l.length + 1 + 2 * 2) x2) (9 * l.length + 2 + 2 * 2) y2) (9 * l.length + 1 + 2 * 3) x3) (9 * l.length + 2 + 2 * 3) y3, ?_, h.nx _ hk ?_ (fun c hc => ?_) (fun i hi => ?_)⟩
  · rw [qst_m hl, obd_s]
    show obd (F_X12_corners (nI (l.length + 1)) _ (nI 0) x0 y0) _ = _
    rw [qco_m hl (by omega), obd_s]
    show obd (F_X12_corners (nI (l.length + 1)) _ (nI 1) x1 y1) _ = _
    rw [qco_m hl (by omega), obd_s]
    show obd (F_X12_corners (nI (l.length + 1)) _ (nI 2) x2 y2) _ = _
    rw [qco_m hl (by omega), obd_s]
    show obd (F_X12_corners (nI (l.length + 1)) _ (nI 3) x3 y3) _ = _
    rw [qco_m hl (by omega), obd_s, List.length_append]; rfl
  · simp (disch := omega) only [ud_n, ud_e]
  · have hc : c < nc k := hc
    have : nc k = 4 := by unfold nc; rw [if_neg hk2.2, if_neg hk2.1]
    have hc4 : c = 0 ∨ c = 1 ∨ c = 2 ∨ c = 3 := by omega
    rcases hc4 with rfl | rfl | rfl | rfl <;> simp (disch := omega) only [ud_n, ud_e] <;> exact ⟨rfl, rfl⟩
  · simp (disch := omega) only [ud_n]
/-! the pieces of a drawing -/
def stP (m : Nat → Int32) (s n k fr to : Nat) : Pc :=
  (0, f4 (aX m s n k fr + nrX m s n k) (aX m s n k to + nrX m s n k) (aX m s n k to - nrX m s n k) (aX m s n k fr - nrX m s n k), f4 (aY m s n k fr + nrY m s n k) (aY m s n k to + nrY m s n k) (aY m s n k to - nrY m s n k) (aY m s n k fr - nrY m s n k))
def crs (m : Nat → Int32) (s n k1 k2 : Nat) : Int := (sgx m s n k1).toInt * (sgy m s n k2).toInt - (sgy m s n k1).toInt * (sgx m s n k2).toInt
def dtp (m : Nat → Int32) (s n k1 k2 : Nat) : Int := (sgx m s n k1).toInt * (sgx m s n k2).toInt + (sgy m s n k1).toInt * (sgy m s n k2).toInt
/-- within the limit, as the reference asks -/
def mit (m : Nat → Int32) (s n k1 k2 : Nat) : Int32 := if m 1 = 0 then F_X12_isUp (lI ((m 2).toInt * (m 2).toInt) * lI (dtp m s n k1 k2)) (lI ((m 2).toInt * (m 2).toInt) - 2) (lI (dtp m s n k1 k1) * lI (dtp m s n k2 k2)) else 0
def tip (m : Nat → Int32) (a kx ky : Int) : Int32 := iI (rnd (2 * (32 * (m 0).toInt) * (32 * (m 0).toInt) * a) (kx * kx + ky * ky))
def jnP (m : Nat → Int32) (s n k1 k2 : Nat) : List Pc :=
  if crs m s n k1 k2 = 0 ∧ (0 < dtp m s n k1 k2 ∨ m 1 ≠ 1) then [] else
  if m 1 = 1 then [dsP (64 * m (16 + 18 * s + 2 * k2)) (64 * m (17 + 18 * s + 2 * k2))] else
  let w : Int32 := if 0 < crs m s n k1 k2 then -1 else 1
  let vx := 64 * m (16 + 18 * s + 2 * k2)
  let vy := 64 * m (17 + 18 * s + 2 * k2)
  if mit m s n k1 k2 = 0 then [(2, f4 vx (vx + w * nrX m s n k1) (vx + w * nrX m s n k2) 0, f4 vy (vy + w * nrY m s n k1) (vy + w * nrY m s n k2) 0)]
  else [(1, f4 vx (vx + w * nrX m s n k1) (vx + w * tip m (nrX m s n k1 + nrX m s n k2).toInt (nrX m s n k1 + nrX m s n k2).toInt (nrY m s n k1 + nrY m s n k2).toInt) (vx + w * nrX m s n k2),
    f4 vy (vy + w * nrY m s n k1) (vy + w * tip m (nrY m s n k1 + nrY m s n k2).toInt (nrX m s n k1 + nrX m s n k2).toInt (nrY m s n k1 + nrY m s n k2).toInt) (vy + w * nrY m s n k2))]
def cpP (m : Nat → Int32) (s n k t : Nat) (way : Int32) : List Pc :=
  if m 3 = 1 then [dsP (aX m s n k t) (aY m s n k t)] else if m 3 = 2 then
    [(4, f4 (aX m s n k t + nrX m s n k) (aX m s n k t + nrX m s n k + way * nrY m s n k) (aX m s n k t - nrX m s n k + way * nrY m s n k) (aX m s n k t - nrX m s n k),
      f4 (aY m s n k t + nrY m s n k) (aY m s n k t + nrY m s n k + way * alY m s n k) (aY m s n k t - nrY m s n k + way * alY m s n k) (aY m s n k t - nrY m s n k))] else []
def dtP (m : Nat → Int32) (s : Nat) : List Pc :=
  let x := 64 * m (16 + 18 * s + 2 * 0)
  let y := 64 * m (17 + 18 * s + 2 * 0)
  let h := 32 * m 0
  if m 3 = 1 then [dsP x y] else if m 3 = 2 then [(4, f4 (x - h) (x + h) (x + h) (x - h), f4 (y - h) (y - h) (y + h) (y + h))] else []
section PCS
variable (N : Nat) (p : Nat → Nat) (m : Nat → Int32) (s : Nat)
def kk (g : Nat) : Nat := (sg N p m s).getD g 0
def cz (r : Run) (i : Nat) : Cut := r.2.2.2.getD i (0, 0, 0)
def jj (r : Run) (i i' : Nat) : List Pc := if (cz r i').1 = (cz r i).1 then [] else jnP m s (p s) (kk N p m s (cz r i).1) (kk N p m s (cz r i').1)
def jo (r : Run) (i : Nat) : List Pc := if i + 1 < r.2.2.2.length then jj N p m s r i (i + 1) else if r.2.2.1 = 1 then jj N p m s r i 0 else []
def rp (r : Run) : Nat → List Pc
  | 0 => []
  | i + 1 => rp r i ++ [stP m s (p s) (kk N p m s (cz r i).1) (cz r i).2.1 (cz r i).2.2] ++ jo N p m s r i
def rcp (r : Run) : List Pc := if r.2.2.1 = 1 then [] else cpP m s (p s) (kk N p m s (cz r 0).1) (cz r 0).2.1 (-1) ++ cpP m s (p s) (kk N p m s (cz r (r.2.2.2.length - 1)).1) (cz r (r.2.2.2.length - 1)).2.2 1
def runP (r : Run) : List Pc := rp N p m s r r.2.2.2.length ++ rcp N p m s r
def fmP : Nat → List Pc
  | 0 => if (sg N p m s).length = 0 then dtP m s else []
  | k + 1 => match (fin N p m s)[k]? with
    | some r => fmP k ++ runP N p m s r
    | none => fmP k
def subP : List Pc := fmP N p m s (fin N p m s).length
end PCS
def pcs (N : Nat) (p : Nat → Nat) (m : Nat → Int32) : Nat → List Pc
  | 0 => []
  | s + 1 => pcs N p m s ++ subP N p m s
