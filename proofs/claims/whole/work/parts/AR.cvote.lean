section
/-! THE CLASS MAKES A VOTE, AN ASK -/
/-- a message that was made -/
def mkC (F g H T : Nat) (s : cS) (ct : Nat → List Nat) (hd : List Nat) (w : Wd) (pe : Nat → Int) (m : List Nat) (z : Option Nat × cS) : Prop := ∃ a ct', z.1 = some a ∧ ct' a = m ∧ (∀ b, b ≠ a → ct' b = ct b) ∧ CR F g H T z.2 ct' (a :: hd) w pe ∧ cnA g H T z.2 a = 0 ∧ us g H T s hd a = 0 ∧ ffr g H hd s z.2
section
variable {F N g H T n : Nat} {s s' s1 s2 : cS} {ct ct' : Nat → List Nat} {hd : List Nat} {w : Wd} {pe : Nat → Int} {a : Nat} {m : List Nat}
/-- from a fresh message and what was written to it to a message that was made -/
theorem mk_C {y : List Nat} (c : CR F g H T s1 (fun b => if b = a then y else ct b) (a :: hd) w pe) (ca : cnA g H T s1 a = 0) (ua : us g H T s hd a = 0) (f1 : ffr g H hd s s1) (hw : mw a s1 s') (st : St 0 g H T s') (hm : hM T s' a m) : mkC F g H T s ct hd w pe m (some a, s') := by
  have q := wr_C c ca hw st hm
  refine ⟨a, _, rfl, if_pos rfl, fun b hb => ?_, q, by rw [hw.cn_]; exact ca, ua, f1.trans ⟨fun x hx => ?_, ?_⟩⟩
  · show (if b = a then m else if b = a then y else ct b) = ct b
    rw [if_neg hb, if_neg hb]
  · have : x ≠ a := fun q => by
      have := us_in (g := g) (H := H) (T := T) (s := s) hx
      rw [q] at this
      omega
    exact hw.2.2.2.2.2.2.1 4 x (Or.inl this)
  · exact ⟨by rw [hw.2.2.2.1], fun _ _ _ _ => by rw [hw.2.2.2.1], fun _ _ _ _ => by rw [hw.2.2.1]⟩
theorem mk_row {y : List Nat} (c : CR F g H T s1 (fun b => if b = a then y else ct b) (a :: hd) w pe) (ca : cnA g H T s1 a = 0) (ua : us g H T s hd a = 0) (f1 : ffr g H hd s s1) (hw : mw a s1 s') (st : St 0 g H T s') (ml : m.length = y.length) (iB : isB m) (row : ∀ i, i < m.length → cA s' (a + 2) i = sb (bg m i)) (hF : mF T s' a m) : mkC F g H T s ct hd w pe m (some a, s') := by
  have ms : mS s1 a y := by
    have q := c.ms (a := a) us_self
    have e : (fun b => if b = a then y else ct b) a = y := if_pos rfl
    rwa [show (if a = a then y else ct a) = y from if_pos rfl] at q
  obtain ⟨m1, m2, m3, m4, m5, m6⟩ := ms
  have hh := hw
  obtain ⟨a1, a2, a3, a4, a5, a6, a7, a8, a9⟩ := hh
  refine mk_C c ca ua f1 hw st ⟨⟨by rw [a1]; exact m1, by rw [a7 2 a (Or.inr (by decide)), ml]; exact m2, ⟨by rw [a2, ml]; exact m3.1, by rw [a2]; exact m3.2.1, row, iB⟩, by rw [ml]; exact m4, by rw [a2, ml]; exact m5, by rw [ml]; exact m6⟩, hF⟩
theorem bg3 (a b c : Nat) : bg [a, b, c] 0 = a ∧ bg [a, b, c] 1 = b ∧ bg [a, b, c] 2 = c := ⟨rfl, rfl, rfl⟩
/-- an ASK -/
theorem ask_C (hN : 100 ≤ N) (h : CR F g H T s ct hd w pe) (hn : n < H) (hl : hd.length ≤ 30) (h1 : 1 ≤ wN w n 1 ∧ wN w n 1 ≤ 41) : wp (p_X6_ask N g H T s (nd g n)) (k_X6_ask N g H T s (nd g n)) (mkC F g H T s ct hd w pe (asB (wN w n 1).toNat)) := by
  have v1 : iI (wN w n 1) = nI (wN w n 1).toNat := by
    rw [← iI_n]
    congr 1
    omega
  have hw : wp (p_X6_ask N g H T s (nd g n)) (k_X6_ask N g H T s (nd g n)) (fun Z => ∃ a y s1, frC F g H T 3 s ct hd w pe (some a, s1) ∧ y.length = 3 ∧ CR F g H T s1 (fun b => if b = a then y else ct b) (a :: hd) w pe ∧ cnA g H T s1 a = 0 ∧ us g H T s hd a = 0 ∧ cI s1 4 a = nI 0 ∧ cI s1 5 a = nI 0 ∧ ffr g H hd s s1 ∧ Z = (some a, csA (csA (csA s1 (a + 2) 0 (sb 5)) (a + 2) 1 (sb ((wN w n 1).toNat / 256 % 256))) (a + 2) (1 + 1) (sb ((wN w n 1).toNat % 256)))) := by
    show wp (KO_X6_ask_0 N g H T (some (nd g n)) s) (KF_X6_ask_0 N g H T (some (nd g n)) s) _
    unfold KO_X6_ask_0 KF_X6_ask_0
    refine wp_and someN (wp_call (fresh_C (N := N) (len := 3) h hl (by decide) (by decide)) ?_)
    intro fr
    have fr' := fr
    obtain ⟨a, y, z1, yl, c, ca, ua, i4, i5, f1, -, -⟩ := fr
    generalize k_X9_fresh N g H T s (g + 11) (nI 3) = z at z1 c ca i4 i5 f1 fr' ⊢
    obtain ⟨z1', s1⟩ := z
    have z1 : z1' = some a := z1
    subst z1
    have c : CR F g H T s1 (fun b => if b = a then y else ct b) (a :: hd) w pe := c
    have ms := c.ms (a := a) us_self
    have L : cL s1 (a + 2) = 128 := by
      have q := ms.2.2.2.2.1
      have e : (if a = a then y else ct a).length = 3 := by rw [if_pos rfl]; exact yl
      have e' : ((fun b => if b = a then y else ct b) a).length = 3 := e
      rw [e', if_pos (by decide)] at q
      exact q
    unfold KO_X6_ask_11 KF_X6_ask_11 KO_X6_ask_31 KF_X6_ask_31
    show wp ((¬ (some a : Option Nat) = none) ∧ (vp_in (nI 0) (cL s1 (za (some a) + 2))) ∧ (¬ (some (nd g n) : Option Nat) = none) ∧ (p_X11_putTwo N g H T (csA s1 (za (some a) + 2) (nI 0).toNatClampNeg ((nI 5).toInt8.toInt32)) (some (za (some a) + 2)) (nI 1) (cI (csA s1 (za (some a) + 2) (nI 0).toNatClampNeg ((nI 5).toInt8.toInt32)) 9 (za (some (nd g n))))) ∧ True) (some a, k_X11_putTwo N g H T (csA s1 (za (some a) + 2) (nI 0).toNatClampNeg ((nI 5).toInt8.toInt32)) (some (za (some a) + 2)) (nI 1) (cI (csA s1 (za (some a) + 2) (nI 0).toNatClampNeg ((nI 5).toInt8.toInt32)) 9 (za (some (nd g n))))) _
    have c0 : (nI 0).toNatClampNeg = 0 := rfl
    have s5 : (nI 5).toInt8.toInt32 = sb 5 := rfl
    have i9 : ∀ v, cI (csA s1 (a + 2) 0 v) 9 (nd g n) = nI (wN w n 1).toNat := fun v => by
      rw [← v1]
      exact (c.node hn).1.2.2.1
    rw [zsome, zsome, c0, s5, i9, L]
    obtain ⟨p1, p2⟩ := putTwo_c (N := N) (g := g) (H := H) (T := T) (s := csA s1 (a + 2) 0 (sb 5)) (r := a + 2) (a := 1) (x := (wN w n 1).toNat) (by rw [cL_A, L]; decide) (by rw [cL_A, L]; decide) (by omega)
    refine wp_and someN (wp_and ((n_in (by omega)).2 (by omega)) (wp_and someN (wp_and p1 (wp_fin trivial ⟨a, y, s1, fr', yl, c, ca, ua, i4, i5, f1, ?_⟩))))
    rw [p2]
  have st := (kpc_X6_ask h.2.1 (isO5 hn) hw.1).1
  refine wp_fin hw.1 ?_
  obtain ⟨a, y, s1, -, yl, c, ca, ua, i4, i5, f1, e⟩ := hw.2
  rw [e] at st ⊢
  have hh : (wN w n 1).toNat / 256 % 256 = (wN w n 1).toNat / 256 := by omega
  rw [hh] at st ⊢
  have al : (asB (wN w n 1).toNat).length = 3 := rfl
  have iB : isB (asB (wN w n 1).toNat) := isB_cons (by decide) (isB_cons (by omega) (isB_cons (by omega) isB_nil))
  obtain ⟨b0, b1, b2⟩ := bg3 5 ((wN w n 1).toNat / 256) ((wN w n 1).toNat % 256)
  have hb1 : sb ((wN w n 1).toNat / 256) = sb (bg (asB (wN w n 1).toNat) 1) := congrArg sb b1.symm
  have hb2 : sb ((wN w n 1).toNat % 256) = sb (bg (asB (wN w n 1).toNat) 2) := congrArg sb b2.symm
  have hb0 : sb 5 = sb (bg (asB (wN w n 1).toNat) 0) := congrArg sb b0.symm
  generalize sb ((wN w n 1).toNat / 256) = v2 at hb1 st ⊢
  generalize sb ((wN w n 1).toNat % 256) = v3 at hb2 st ⊢
  generalize sb 5 = v0 at hb0 st ⊢
  have hw' : mw a s1 (csA (csA (csA s1 (a + 2) 0 v0) (a + 2) 1 v2) (a + 2) (1 + 1) v3) := (mw_a.trans mw_a).trans mw_a
  have row : ∀ i, cA (csA (csA (csA s1 (a + 2) 0 v0) (a + 2) 1 v2) (a + 2) (1 + 1) v3) (a + 2) i = if i = 1 + 1 then v3 else if i = 1 then v2 else if i = 0 then v0 else cA s1 (a + 2) i := fun i => by rw [cA_at, cA_at, cA_at]
  have j4 : cI (csA (csA (csA s1 (a + 2) 0 v0) (a + 2) 1 v2) (a + 2) (1 + 1) v3) 4 a = nI 0 := i4
  have j5 : cI (csA (csA (csA s1 (a + 2) 0 v0) (a + 2) 1 v2) (a + 2) (1 + 1) v3) 5 a = nI 0 := i5
  generalize csA (csA (csA s1 (a + 2) 0 v0) (a + 2) 1 v2) (a + 2) (1 + 1) v3 = s3 at st hw' row j4 j5 ⊢
  refine mk_row c ca ua f1 hw' st (by rw [al, yl]) iB (fun i hi => ?_) (Or.inl ⟨j4, j5⟩)
  rw [al] at hi
  rw [row]
  rcases (show i = 0 ∨ i = 1 ∨ i = 2 by omega) with rfl | rfl | rfl
  · rw [if_neg (by decide), if_neg (by decide), if_pos rfl, hb0]
  · rw [if_neg (by decide), if_pos rfl, hb1]
  · rw [if_pos rfl, hb2]
/-- the row of a vote, so far -/
theorem vt_row {k s_ h r f5 : Nat} {b0 b1 b2 b3 b4 b5 : Int32} {R : Nat → Int32} (o : Option (List Nat)) (hk : k < 256) (hs : s_ < 256) (hh : h < 65536) (hr : r < 256) (e0 : b0 = sb k) (e1 : b1 = sb s_) (e2 : b2 = sb (h / 256 % 256)) (e3 : b3 = sb (h % 256)) (e4 : b4 = sb r) (e5 : b5 = sb f5) (hf : f5 = (match o with | none => 0 | some _ => 1)) (R0 : R 0 = b0) (R1 : R 1 = b1) (R2 : R 2 = b2) (R3 : R 3 = b3) (R4 : R 4 = b4) (R5 : R 5 = b5) (R6 : ∀ d, o = some d → ∀ i, i < 32 → R (6 + i) = sb (bg d i)) (hd : ∀ d, o = some d → d.length = 32) : ∀ i, i < (vtB k s_ h r o).length → R i = sb (bg (vtB k s_ h r o) i) := fun i hi => by
  have hl : (vtB k s_ h r o).length = 6 + (match o with | none => 0 | some d => d.length) := by
    cases o with
    | none => rfl
    | some d =>
      show (hdB k s_ h r ++ 1 :: d).length = _
      rw [List.length_append, List.length_cons]
      show 5 + (d.length + 1) = 6 + d.length
      omega
  have hx : h / 256 % 256 = h / 256 := by omega
  have v : bg (vtB k s_ h r o) 0 = k ∧ bg (vtB k s_ h r o) 1 = s_ ∧ bg (vtB k s_ h r o) 2 = h / 256 ∧ bg (vtB k s_ h r o) 3 = h % 256 ∧ bg (vtB k s_ h r o) 4 = r ∧ bg (vtB k s_ h r o) 5 = f5 := by
    rw [hf]
    cases o with
    | none => exact ⟨rfl, rfl, rfl, rfl, rfl, rfl⟩
    | some d => exact ⟨rfl, rfl, rfl, rfl, rfl, rfl⟩
  obtain ⟨w0, w1, w2, w3, w4, w5⟩ := v
  by_cases c : i < 6
  · rcases (show i = 0 ∨ i = 1 ∨ i = 2 ∨ i = 3 ∨ i = 4 ∨ i = 5 by omega) with rfl | rfl | rfl | rfl | rfl | rfl
    · rw [R0, e0, w0]
    · rw [R1, e1, w1]
    · rw [R2, e2, w2, hx]
    · rw [R3, e3, w3]
    · rw [R4, e4, w4]
    · rw [R5, e5, w5]
  · cases o with
    | none =>
      rw [hl] at hi
      exact absurd hi (by show ¬ i < 6 + 0; omega)
    | some d =>
      rw [hl] at hi
      have hi' : i < 6 + d.length := hi
      have d32 := hd d rfl
      have q := R6 d rfl (i - 6) (by omega)
      rw [show 6 + (i - 6) = i by omega] at q
      rw [q]
      have e : bg (vtB k s_ h r (some d)) i = bg d (i - 6) := by
        show bg (hdB k s_ h r ++ 1 :: d) i = _
        rw [bg_app]
        have h5 : (hdB k s_ h r).length = 5 := rfl
        rw [h5, if_neg (by omega), bg_cons, if_neg (by omega)]
        congr 1
      rw [e]
end
end
