section
/-! CALLS OF THE CLASS: a payment is handed in -/
section
variable {F N g H T n k : Nat} {s s0 s1 S X : cS} {ct : Nat → List Nat} {hd : List Nat} {w w' V W : Wd} {pe : Nat → Int} {a b c d e : Nat} {l m : List Nat} {x1 x2 x3 x4 x5 x6 v : Int32}
theorem or_add {x y i : Nat} (h : y < 2 ^ i) : x * 2 ^ i ||| y = x * 2 ^ i + y := by
  have := Nat.shiftLeft_add_eq_or_of_lt h x
  rw [Nat.shiftLeft_eq] at this
  exact this.symm
theorem i2l_n {a : Nat} (h : a < 2147483648) : (Int32.toInt64 (nI a)).toBitVec = BitVec.ofNat 64 a := by
  apply BitVec.eq_of_getLsbD_eq
  intro i hi
  have e : (nI a).toBitVec = BitVec.ofNat 32 a := rfl
  have ms : (nI a).toBitVec.msb = false := by
    rw [BitVec.msb_eq_getLsbD_last, e, BitVec.getLsbD_ofNat]
    simp [Nat.testBit_lt_two_pow (show a < 2 ^ (32 - 1) by omega)]
  rw [i2l_bit _ hi, ms, e, BitVec.getLsbD_ofNat, BitVec.getLsbD_ofNat]
  by_cases c : i < 32
  · simp [c, hi]
  · rw [if_neg c, Nat.testBit_lt_two_pow (Nat.lt_of_lt_of_le (show a < 2 ^ 31 by omega) (Nat.pow_le_pow_right (by decide) (by omega)))]
    simp
theorem shl_n {j : Nat} {z : Int64} {q : Int64} (hj : j < 64) (hq : (q.toBitVec.smod 64) = BitVec.ofNat 64 j) : (z <<< q).toBitVec = z.toBitVec <<< j := by
  show z.toBitVec <<< (q.toBitVec.smod 64) = _
  rw [hq]
  show z.toBitVec <<< (BitVec.ofNat 64 j).toNat = _
  rw [BitVec.toNat_ofNat, Nat.mod_eq_of_lt (by omega)]
theorem shl_t {a j : Nat} (ha : a < 2147483648) (hj : j < 64) (h : a * 2 ^ j < 2 ^ 64) : ((BitVec.ofNat 64 a) <<< j).toNat = a * 2 ^ j := by
  rw [BitVec.toNat_shiftLeft, BitVec.toNat_ofNat, show a % 2 ^ 64 = a from Nat.mod_eq_of_lt (by omega), Nat.shiftLeft_eq, Nat.mod_eq_of_lt h]
/-- a payment's code -/
theorem code_c (ha : a < 16) (hb : b < 16) (hc : c ≤ 1000) (hd : d < 65536) (he : e ≤ 9) : (((((Int32.toInt64 (nI a)) <<< (Int32.toInt64 (nI 48) &&& 63)) ||| ((Int32.toInt64 (nI b)) <<< (Int32.toInt64 (nI 40) &&& 63))) ||| ((Int32.toInt64 (nI c)) <<< (Int32.toInt64 (nI 24) &&& 63))) ||| ((Int32.toInt64 (nI d)) <<< (Int32.toInt64 (nI 8) &&& 63))) ||| (Int32.toInt64 (nI e)) = coD (pyT a b c d e) := by
  have pB : isB (pyT a b c d e) := by
    unfold pyT
    exact isB_c (by omega) (isB_c (by omega) (isB_c (by omega) (isB_c (by omega) (isB_c (by omega) (isB_c (by omega) (isB_c (by omega) (fun i => by rw [bg_out (by simp)]; decide)))))))
  have key : ((((((Int32.toInt64 (nI a)) <<< (Int32.toInt64 (nI 48) &&& 63)) ||| ((Int32.toInt64 (nI b)) <<< (Int32.toInt64 (nI 40) &&& 63))) ||| ((Int32.toInt64 (nI c)) <<< (Int32.toInt64 (nI 24) &&& 63))) ||| ((Int32.toInt64 (nI d)) <<< (Int32.toInt64 (nI 8) &&& 63))) ||| (Int32.toInt64 (nI e))).toBitVec.toNat = a * 2 ^ 48 + b * 2 ^ 40 + c * 2 ^ 24 + d * 2 ^ 8 + e := by
    rw [Int64.toBitVec_or, Int64.toBitVec_or, Int64.toBitVec_or, Int64.toBitVec_or, shl_n (j := 48) (by decide) (by decide), shl_n (j := 40) (by decide) (by decide), shl_n (j := 24) (by decide) (by decide), shl_n (j := 8) (by decide) (by decide), i2l_n (by omega), i2l_n (by omega), i2l_n (by omega), i2l_n (by omega), i2l_n (by omega), BitVec.toNat_or, BitVec.toNat_or, BitVec.toNat_or, BitVec.toNat_or, shl_t (by omega) (by decide) (by omega), shl_t (by omega) (by decide) (by omega), shl_t (by omega) (by decide) (by omega), shl_t (by omega) (by decide) (by omega), BitVec.toNat_ofNat, Nat.mod_eq_of_lt (by omega)]
    rw [or_add (x := a) (y := b * 2 ^ 40) (by omega), show a * 2 ^ 48 + b * 2 ^ 40 = (a * 256 + b) * 2 ^ 40 by omega, or_add (y := c * 2 ^ 24) (by omega), show (a * 256 + b) * 2 ^ 40 + c * 2 ^ 24 = ((a * 256 + b) * 65536 + c) * 2 ^ 24 by omega, or_add (y := d * 2 ^ 8) (by omega), show ((a * 256 + b) * 65536 + c) * 2 ^ 24 + d * 2 ^ 8 = (((a * 256 + b) * 65536 + c) * 65536 + d) * 2 ^ 8 by omega, or_add (y := e) (by omega)]
  refine byt_ext (fun k hk => ?_)
  rw [byt_nat _ hk, key, coD_byt pB hk]
  rcases k8 hk with rfl | rfl | rfl | rfl | rfl | rfl | rfl | rfl
  · show nI ((a * 2 ^ 48 + b * 2 ^ 40 + c * 2 ^ 24 + d * 2 ^ 8 + e) / 2 ^ 56 % 2 ^ 8) = nI 0
    congr 1
    omega
  · show nI ((a * 2 ^ 48 + b * 2 ^ 40 + c * 2 ^ 24 + d * 2 ^ 8 + e) / 2 ^ 48 % 2 ^ 8) = nI a
    congr 1
    omega
  · show nI ((a * 2 ^ 48 + b * 2 ^ 40 + c * 2 ^ 24 + d * 2 ^ 8 + e) / 2 ^ 40 % 2 ^ 8) = nI b
    congr 1
    omega
  · show nI ((a * 2 ^ 48 + b * 2 ^ 40 + c * 2 ^ 24 + d * 2 ^ 8 + e) / 2 ^ 32 % 2 ^ 8) = nI (c / 256)
    congr 1
    omega
  · show nI ((a * 2 ^ 48 + b * 2 ^ 40 + c * 2 ^ 24 + d * 2 ^ 8 + e) / 2 ^ 24 % 2 ^ 8) = nI (c % 256)
    congr 1
    omega
  · show nI ((a * 2 ^ 48 + b * 2 ^ 40 + c * 2 ^ 24 + d * 2 ^ 8 + e) / 2 ^ 16 % 2 ^ 8) = nI (d / 256)
    congr 1
    omega
  · show nI ((a * 2 ^ 48 + b * 2 ^ 40 + c * 2 ^ 24 + d * 2 ^ 8 + e) / 2 ^ 8 % 2 ^ 8) = nI (d % 256)
    congr 1
    omega
  · show nI ((a * 2 ^ 48 + b * 2 ^ 40 + c * 2 ^ 24 + d * 2 ^ 8 + e) / 2 ^ 0 % 2 ^ 8) = nI e
    congr 1
    omega
theorem aOn_all {M : List Nat} : aOn w n T n n M = aAll w n T M := by
  unfold aOn aAll
  have : (fun j => decide (j ≠ n ∧ j ≠ n ∧ j ≠ n)) = fun j => decide (j ≠ n) := funext fun j => by
    by_cases q : j = n
    · rw [decide_eq_false (fun z => z.1 q), decide_eq_false (fun z => z q)]
    · rw [decide_eq_true ⟨q, q, q⟩, decide_eq_true q]
  rw [this]
/-- it is sent to all -/
theorem sub_146 {p : List Nat} (hN : 12000 ≤ N) (cr : CR F g H T s ct [] w (fun _ => -1)) (b5 : bF g H s) (hn : n < H) (hp : p.length = 7 ∧ isB p) : wp ((p_X9_fresh N g H T s (g + 11) (nI 8)) ∧ KO_X11_submit_146 N g H T g (nI n) (coD p) ((k_X9_fresh N g H T s (g + 11) (nI 8)).1) (k_X9_fresh N g H T s (g + 11) (nI 8)).2) (KF_X11_submit_146 N g H T g (nI n) (coD p) ((k_X9_fresh N g H T s (g + 11) (nI 8)).1) (k_X9_fresh N g H T s (g + 11) (nI 8)).2) (fun z => z.1 = nI 1 ∧ clW F g H T z.2 (aAll w n T (0 :: p))) := by
  have cb := cr.1.bb
  have fr := fresh_C (N := N) (len := 8) cr (by decide) (by omega) (by omega)
  have f5 := k5c_X9_fresh (u := 0) cr.2.1 oS7 fr.1
  refine wp_call fr (fun fr => ?_)
  obtain ⟨e, y0, z1, yl, cc, ca, uc, i4, i5, f1, f2, f3⟩ := fr
  generalize k_X9_fresh N g H T s (g + 11) (nI 8) = z at z1 cc ca i4 i5 f1 f2 f3 f5 ⊢
  obtain ⟨z1', s1⟩ := z
  have z1 : z1' = some e := z1
  subst z1
  have cc : CR F g H T s1 (fun b => if b = e then y0 else ct b) [e] w (fun _ => -1) := cc
  have ca : cnA g H T s1 e = 0 := ca
  have i4 : cI s1 4 e = nI 0 := i4
  have i5 : cI s1 5 e = nI 0 := i5
  have f1 : ffr g H [] s s1 := f1
  have b1 : bF g H s1 := b5.M f5.2.1
  have ms1 := cc.ms us_self
  rw [show (if e = e then y0 else ct e) = y0 from if_pos rfl] at ms1
  have lr := ms1.2.2.2.2.1
  rw [yl, if_pos (by decide)] at lr
  have kr := (cc.2.1.ms ms1.1).2.1
  show wp (KO_X11_submit_146 N g H T g (nI n) (coD p) (some e) s1) (KF_X11_submit_146 N g H T g (nI n) (coD p) (some e) s1) _
  unfold KO_X11_submit_146 KF_X11_submit_146
  rw [zsome, lr, show (nI 0).toInt8.toInt32 = sb 0 from rfl, show (nI 0).toNatClampNeg = 0 from rfl]
  have pc := putCode_c (N := N) (g := g) (H := H) (T := T) (s := csA s1 (e + 2) 0 (sb 0)) (r := e + 2) (a := 1) (by omega) hp.2 hp.1 (by show 1 + 7 ≤ cL s1 (e + 2); omega) (by show cL s1 (e + 2) ≤ 3000; omega)
  refine wp_and someN (wp_and ((n_in (by omega)).2 (by omega)) (wp_call pc (fun q => ?_)))
  obtain ⟨f, q1, q2⟩ := q
  have e2 : k_X0_putCode N g H T (csA s1 (e + 2) 0 (sb 0)) (coD p) (some (e + 2)) (nI 1) = csArow s1 (e + 2) f := by
    rw [q1]
    unfold csA
    exact row_row _ _ _ _
  rw [e2]
  have fv : ∀ i, f i = if 1 ≤ i ∧ i < 8 then sb (bg p (i - 1)) else if i = 0 then sb 0 else cA s1 (e + 2) i := fun i => by
    rw [q2 i, cA_at]
  have rb : rB f := fun i => by
    rw [fv i]
    split
    · exact sb_b8 _
    · split
      · exact sb_b8 _
      · exact cc.2.1.b8 kr _
  have l8 : (0 :: p).length = 8 := by
    show p.length + 1 = 8
    omega
  obtain ⟨a', ct', q0, q1, q2, q3, q4, q5, q6⟩ := mk_row (m := 0 :: p) (s' := csArow s1 (e + 2) f) cc ca uc f1 mw_A (cc.2.1.Ar _ _ (fun _ => rb)) (by omega) (isB_c (by decide) hp.2) (fun i hi => by
    rw [cA_same, fv i]
    cases i with
    | zero => rfl
    | succ i =>
      rw [if_pos (by omega)]
      rfl) (Or.inl ⟨i4, i5⟩)
  have q0 : some e = some a' := q0
  cases q0
  have q3 : CR F g H T (csArow s1 (e + 2) f) ct' [e] w (fun _ => -1) := q3
  have b2 : bF g H (csArow s1 (e + 2) f) := b1
  generalize csArow s1 (e + 2) f = s2 at q3 b2 ⊢
  unfold KO_X11_submit_167 KF_X11_submit_167
  have sp := spread_C (N := N) (m := e) (f := n) (b := n) (c := n) (by omega) q3 List.mem_cons_self (by omega) (by omega) (by omega)
  have st := k5c_X10_spread (u := 0) q3.2.1 isO8 (fun b z => by cases z; exact (q3.ms us_self).1) sp.1
  refine wp_call sp (fun q => ?_)
  rw [q1, aOn_all] at q
  have b3 := b2.M st.2
  generalize k_X10_spread N g H T s2 (g + 8) (nI n) (some e) (nI n) (nI n) = s3 at q b3 ⊢
  unfold KO_X11_submit_179 KF_X11_submit_179 KO_X11_submit_191 KF_X11_submit_191
  have dr := drop_C (N := N) q.1 (by decide)
  have s5 := k5c_X9_drop (u := 0) q.1.2.1 oS7 (fun b z => by cases z; exact (q.1.ms us_self).1) dr.1
  exact wp_and dr.1 (wp_fin trivial ⟨rfl, ct', dr.2.1, b3.M s5.2⟩)
theorem IV.submit {p : List Nat} (iv : IV F H T w) (hn : n < H) (hp : p.length = 7 ∧ isB p ∧ payOK p 0) : IV F H T (aSub w n T p) := by
  have aj := iv.1.submit (n := n) hn hp
  have f : wfr n w (aSub w n T p) ∧ pxf n w (aSub w n T p) ∧ tzf n w (aSub w n T p) ∧ qtR w (aSub w n T p) n := by
    have q : qtR w (aPool w n p).2 n := by
      unfold aPool
      split
      · exact qtN.refl.r
      · exact (show qtN w _ n from ⟨rfl, fun _ _ => rfl⟩).r
    unfold aSub
    split
    · exact ⟨wfr.pool.trans wfr.all, pxf.pool.trans pxf.all, tzf.pool.trans tzf.all, q.trans (show qtN _ _ n from ⟨rfl, fun _ _ => rfl⟩).r⟩
    · exact ⟨wfr.pool, pxf.pool, tzf.pool, q⟩
  exact ⟨aj, iv.2.1.step f.1 aj.1.1 f.2.1 f.2.2.1, rest_all iv.2.2 f.1 (fun hn => (iv.2.2 n hn).q f.2.2.2)⟩
theorem submit_C {W : Wd} (hN : 12000 ≤ N) (h : clW F g H T s w) (iv : IV F H T w) (hv : (∃ n a b c d e, suA w H x1 x2 x3 x4 x5 x6 n a b c d e ∧ W = aSub w n T (pyT a b c d e) ∧ v = nI (if (aPool w n (pyT a b c d e)).1 then 1 else 0)) ∨ ((¬ ∃ n a b c d e, suA w H x1 x2 x3 x4 x5 x6 n a b c d e) ∧ W = w ∧ v = nI 0)) : wp (p_X11_submit N g H T s g x1 x2 x3 x4 x5 x6) (k_X11_submit N g H T s g x1 x2 x3 x4 x5 x6) (fun z => z.1 = v ∧ clW F g H T z.2 W ∧ IV F H T W) := by
  have h' := h
  obtain ⟨ct, cr, b5⟩ := h'
  have cb := cr.1.bb
  show wp (KO_X11_submit_0 N g H T g x1 x2 x3 x4 x5 x6 s) (KF_X11_submit_0 N g H T g x1 x2 x3 x4 x5 x6 s) _
  unfold KO_X11_submit_0 KF_X11_submit_0 KO_X11_submit_45 KF_X11_submit_45 KO_X11_submit_86 KF_X11_submit_86
  have no : (¬ ∃ n a b c d e, suA w H x1 x2 x3 x4 x5 x6 n a b c d e) → ((nI 0, s) : Int32 × cS).1 = v ∧ clW F g H T ((nI 0, s) : Int32 × cS).2 W ∧ IV F H T W := fun z => by
    rcases hv with ⟨n, a, b, c, d, e, q1, _⟩ | ⟨_, q2, q3⟩
    · exact absurd ⟨n, a, b, c, d, e, q1⟩ z
    · rw [q2, q3]
      exact ⟨rfl, h, iv⟩
  by_cases c : ∃ n, n < H ∧ x1 = nI n
  rotate_left
  · obtain ⟨o1, o2⟩ := honest_n (N := N) cr c
    rw [o2]
    exact wp_and o1 (wp_pos rfl (wp_fin trivial (no (fun ⟨n, _, _, _, _, _, q⟩ => c ⟨n, q.1, q.2.2.2.2.2.2.2.2.2.2.1⟩))))
  obtain ⟨n, hn, rfl⟩ := c
  obtain ⟨G, g1⟩ := iv.2.1.1.1
  have gn := g1.2.1 n hn
  have ga0 := gn.a.1
  have e8 : cI s 8 (nd g n) = nI (wN w n 0).toNat := by
    rw [(cr.node hn).1.2.1, ← iI_n, Int.toNat_of_nonneg ga0.1]
  obtain ⟨o1, o2⟩ := honest_y (N := N) cr hn
  rw [o2, zsome, e8]
  refine wp_and o1 (wp_neg someN ?_)
  have un : ∀ n' a b c d e, suA w H (nI n) x2 x3 x4 x5 x6 n' a b c d e → n' = n := fun n' a b c d e q => (n_inj (by omega) (by have := q.1; omega) q.2.2.2.2.2.2.2.2.2.2.1).symm
  by_cases hu : wN w n 0 = 1
  rotate_left
  · refine wp_pos (by rw [n_eq0 (by omega)]; omega) (wp_fin trivial (no (fun ⟨n', a, b, c, d, e, q⟩ => ?_)))
    have e := un _ _ _ _ _ _ q
    subst e
    exact hu q.2.1
  refine wp_neg (by rw [n_eq0 (by omega)]; omega) (wp_ite (fun c => wp_fin trivial (no ?_)) (fun c => ?_))
  · rintro ⟨n', a, b, c', d, e, q0, q1, q2, q3, q4, q5, q6, q7, q8, q9, q10, q11, q12⟩
    rw [q11] at c
    exact n_lt0 (by omega) c
  obtain ⟨a, ha, rfl⟩ := i_nat c
  refine wp_ite (fun c => wp_fin trivial (no ?_)) (fun c2 => ?_)
  · rintro ⟨n', a', b, c', d, e, q0, q1, q2, q3, q4, q5, q6, q7, q8, q9, q10, q11, q12⟩
    rw [q11, n_le' (by omega) (by omega)] at c
    omega
  rw [n_le' (by omega) ha] at c2
  refine wp_ite (fun c => wp_fin trivial (no ?_)) (fun c3 => ?_)
  · rintro ⟨n', a', b, c', d, e, q0, q1, q2, q3, q4, q5, q6, q7, q8, q9, q10, q11, q12, _⟩
    rw [q12] at c
    exact n_lt0 (by omega) c
  obtain ⟨b, hb, rfl⟩ := i_nat c3
  refine wp_ite (fun c => wp_fin trivial (no ?_)) (fun c4 => ?_)
  · rintro ⟨n', a', b', c', d, e, q0, q1, q2, q3, q4, q5, q6, q7, q8, q9, q10, q11, q12, _⟩
    rw [q12, n_le' (by omega) (by omega)] at c
    omega
  rw [n_le' (by omega) hb] at c4
  refine wp_ite (fun c => wp_fin trivial (no ?_)) (fun c5 => ?_)
  · rintro ⟨n', a', b', c', d, e, q0, q1, q2, q3, q4, q5, q6, q7, q8, q9, q10, q11, q12, _⟩
    rw [q11, q12] at c
    exact q4 (n_inj (by omega) (by omega) c)
  refine wp_ite (fun c => wp_fin trivial (no ?_)) (fun c6 => ?_)
  · rintro ⟨n', a', b', c', d, e, q0, q1, q2, q3, q4, q5, q6, q7, q8, q9, q10, q11, q12, q13, _⟩
    rw [q13, n_lt' (by omega) (by omega)] at c
    omega
  have cx : ¬ x4 < 0 := fun z => c6 (by
    rw [Int32.lt_iff_toInt_lt] at z ⊢
    have : (0 : Int32).toInt = 0 := rfl
    have : (nI 1).toInt = 1 := rfl
    omega)
  obtain ⟨c, hc, rfl⟩ := i_nat cx
  rw [n_lt' hc (by omega)] at c6
  refine wp_ite (fun c => wp_fin trivial (no ?_)) (fun c7 => ?_)
  · rintro ⟨n', a', b', c', d, e, q0, q1, q2, q3, q4, q5, q6, q7, q8, q9, q10, q11, q12, q13, _⟩
    rw [q13, n_lt' (by omega) (by omega)] at c
    omega
  rw [n_lt' (by omega) hc] at c7
  refine wp_ite (fun c => wp_fin trivial (no ?_)) (fun c8 => ?_)
  · rintro ⟨n', a', b', c', d, e, q0, q1, q2, q3, q4, q5, q6, q7, q8, q9, q10, q11, q12, q13, q14, _⟩
    rw [q14] at c
    exact n_lt0 (by omega) c
  obtain ⟨d, hd, rfl⟩ := i_nat c8
  have e65 : (65535 : Int32) = nI 65535 := rfl
  rw [e65]
  refine wp_ite (fun c => wp_fin trivial (no ?_)) (fun c9 => ?_)
  · rintro ⟨n', a', b', c', d', e, q0, q1, q2, q3, q4, q5, q6, q7, q8, q9, q10, q11, q12, q13, q14, _⟩
    rw [q14, n_lt' (by omega) (by omega)] at c
    omega
  rw [n_lt' (by omega) hd] at c9
  refine wp_ite (fun c => wp_fin trivial (no ?_)) (fun c10 => ?_)
  · rintro ⟨n', a', b', c', d', e, q0, q1, q2, q3, q4, q5, q6, q7, q8, q9, q10, q11, q12, q13, q14, q15⟩
    rw [q15, n_lt' (by omega) (by omega)] at c
    omega
  have cx : ¬ x6 < 0 := fun z => c10 (by
    rw [Int32.lt_iff_toInt_lt] at z ⊢
    have : (0 : Int32).toInt = 0 := rfl
    have : (nI 1).toInt = 1 := rfl
    omega)
  obtain ⟨e, he, rfl⟩ := i_nat cx
  rw [n_lt' he (by omega)] at c10
  refine wp_ite (fun c11 => ?_) (fun c11 => wp_fin trivial (no ?_))
  rotate_left
  · rintro ⟨n', a', b', c', d', e', q0, q1, q2, q3, q4, q5, q6, q7, q8, q9, q10, q11, q12, q13, q14, q15⟩
    rw [q15, n_le' (by omega) (by omega)] at c11
    omega
  rw [n_le' he (by omega)] at c11
  have su : suA w H (nI n) (nI a) (nI b) (nI c) (nI d) (nI e) n a b c d e := ⟨hn, hu, by omega, by omega, fun z => c5 (by rw [z]), by omega, by omega, by omega, by omega, by omega, rfl, rfl, rfl, rfl, rfl, rfl⟩
  have hv' : W = aSub w n T (pyT a b c d e) ∧ v = nI (if (aPool w n (pyT a b c d e)).1 then 1 else 0) := by
    rcases hv with ⟨n', a', b', c', d', e', q, q5⟩ | ⟨q, _⟩
    · obtain ⟨q0, q1, q2, q3, q4, q5', q6, q7, q8, q9, q10, q11, q12, q13, q14, q15⟩ := q
      have := n_inj (by omega) (by omega) q10
      subst this
      have := n_inj ha (by omega) q11
      subst this
      have := n_inj hb (by omega) q12
      subst this
      have := n_inj hc (by omega) q13
      subst this
      have := n_inj hd (by omega) q14
      subst this
      have := n_inj he (by omega) q15
      subst this
      exact q5
    · exact absurd ⟨n, a, b, c, d, e, su⟩ q
  have pk := pyT_ok (a := a) (b := b) (c := c) (d := d) (e := e) (by omega) (by omega) (fun z => c5 (by rw [z])) (by omega) (by omega) (by omega) (by omega) (by omega)
  have pB := pk.2.1
  have ivW : IV F H T W := by
    rw [hv'.1]
    exact iv.submit hn pk
  unfold KO_X11_submit_106 KF_X11_submit_106
  rw [zsome, code_c (by omega) (by omega) (by omega) (by omega) (by omega)]
  have ad := addPayment_C (N := N) (c := pyT a b c d e) (by omega) cr hn hu gn.o7 ⟨rfl, pB⟩
  have k6 : isO g H 6 (nd g n + 14) := o53 (isO5 hn)
  have a5 := k5c_X8_addPayment (u := 0) cr.2.1 k6 ad.1
  refine wp_and someN (wp_call ad (fun q => ?_))
  generalize k_X8_addPayment N g H T s (nd g n + 14) (coD (pyT a b c d e)) = Z at q a5 ⊢
  obtain ⟨q1, q2⟩ := q
  have b2 := b5.M a5.2
  unfold KO_X11_submit_129 KF_X11_submit_129
  rw [q2, hv'.1, hv'.2]
  rw [hv'.1] at ivW
  unfold aSub at ivW ⊢
  cases ep : (aPool w n (pyT a b c d e)).1 with
  | false =>
    rw [ep] at ivW
    exact wp_pos rfl (wp_fin trivial ⟨rfl, ⟨ct, q1, b2⟩, ivW⟩)
  | true =>
    rw [ep] at ivW
    exact wp_neg (by decide) (wp_mono (sub_146 hN q1 b2 hn ⟨rfl, pB⟩) (fun q => ⟨q.1, q.2, ivW⟩))
end
end
