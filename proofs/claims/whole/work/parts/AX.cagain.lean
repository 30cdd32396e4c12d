section
/-! THE CLASS'S NODE PROPOSES THE VALID BLOCK AGAIN -/
def sgS (s : cS) (r : Nat) (b0 b1 b2 b3 b4 b5 : Int32) : cS := csA (csA (csA (csA (csA (csA s r 0 b0) r 1 b1) r 2 b2) r (2 + 1) b3) r 4 b4) r 5 b5
section
variable {F N g H T n : Nat} {s s' s1 s2 : cS} {ct ct' : Nat → List Nat} {hd : List Nat} {w w' : Wd} {pe : Nat → Int} {a r : Nat}
theorem cJ_row {f : Nat → Int32} : cJ (csArow s r f) = cJ s := rfl
theorem sgS_r {b0 b1 b2 b3 b4 b5 : Int32} (i : Nat) : cA (sgS s r b0 b1 b2 b3 b4 b5) r i = if i = 5 then b5 else if i = 4 then b4 else if i = 2 + 1 then b3 else if i = 2 then b2 else if i = 1 then b1 else if i = 0 then b0 else cA s r i := by
  unfold sgS
  rw [cA_at, cA_at, cA_at, cA_at, cA_at, cA_at]
theorem sgS_c {b0 b1 b2 b3 b4 b5 : Int32} : cfr (fun b => b = r) s (sgS s r b0 b1 b2 b3 b4 b5) := (((((cfr_A _ _ _).trans (cfr_A _ _ _)).trans (cfr_A _ _ _)).trans (cfr_A _ _ _)).trans (cfr_A _ _ _)).trans (cfr_A _ _ _)
theorem sgS_o {b0 b1 b2 b3 b4 b5 : Int32} : cJ (sgS s r b0 b1 b2 b3 b4 b5) = cJ s ∧ cL (sgS s r b0 b1 b2 b3 b4 b5) = cL s ∧ cI (sgS s r b0 b1 b2 b3 b4 b5) = cI s := ⟨rfl, rfl, rfl⟩
theorem sgS_w {b0 b1 b2 b3 b4 b5 : Int32} : mw a s (sgS s (a + 2) b0 b1 b2 b3 b4 b5) := ((((mw_a.trans mw_a).trans mw_a).trans mw_a).trans mw_a).trans mw_a
theorem vr_b {v : Int} (hv : -1 ≤ v ∧ v < 16) : ((iI v).toInt8.toInt32).toInt8.toInt32 = sb (vrB v) := by
  unfold vrB
  by_cases c : v = -1
  · rw [if_pos c, c]
    decide
  · rw [if_neg c]
    have e : iI v = nI v.toNat := by
      rw [← iI_n]
      congr 1
      omega
    rw [e, sb2, show v.toNat % 256 = v.toNat by omega]
theorem sign_c {h rd : Nat} {x2 : Int32} {vb : Nat} (e1 : cI s 1 (nd g n) = nI n) (e9 : cI s 9 (nd g n) = nI h) (e10 : cI s 10 (nd g n) = nI rd) (hn : n < 13) (hh : h < 65536) (hr : rd < 256) (hv : (x2.toInt8.toInt32).toInt8.toInt32 = sb vb) (hL : 6 ≤ cL s r) (hL' : cL s r ≤ 3000) : p_X7_signProposal N g H T s (some (nd g n)) (some r) x2 ∧ k_X7_signProposal N g H T s (some (nd g n)) (some r) x2 = sgS s r (sb 1) (sb n) (sb (h / 256 % 256)) (sb (h % 256)) (sb rd) (sb vb) := by
  show wp (KO_X7_signProposal_0 N g H T (some (nd g n)) (some r) x2 s) (KF_X7_signProposal_0 N g H T (some (nd g n)) (some r) x2 s) (fun Z => Z = sgS s r (sb 1) (sb n) (sb (h / 256 % 256)) (sb (h % 256)) (sb rd) (sb vb))
  unfold KO_X7_signProposal_0 KF_X7_signProposal_0
  have c0 : (nI 0).toNatClampNeg = 0 := rfl
  have c1 : (nI 1).toNatClampNeg = 1 := rfl
  have c4 : (nI 4).toNatClampNeg = 4 := rfl
  have c5 : (nI 5).toNatClampNeg = 5 := rfl
  have g1 : ∀ v, cI (csA s r 0 v) 1 (nd g n) = nI n := fun _ => e1
  have s1' : (nI 1).toInt8.toInt32 = sb 1 := rfl
  rw [zsome, zsome, c0, c1, g1, cL_A, sb2, s1', show n % 256 = n by omega]
  refine wp_and ⟨someN, ((n_in (by omega)).2 (by omega))⟩ (wp_and someN (wp_and ⟨someN, ((n_in (by omega)).2 (by omega))⟩ ?_))
  generalize sb 1 = b0
  generalize sb n = b1
  unfold KO_X7_signProposal_12 KF_X7_signProposal_12
  have g9 : cI (csA (csA s r 0 b0) r 1 b1) 9 (nd g n) = nI h := e9
  rw [zsome, g9]
  obtain ⟨p1, p2⟩ := putTwo_c (N := N) (g := g) (H := H) (T := T) (s := csA (csA s r 0 b0) r 1 b1) (r := r) (a := 2) (x := h) (by rw [cL_A, cL_A]; omega) (by rw [cL_A, cL_A]; omega) (by omega)
  refine wp_and someN (wp_and p1 ?_)
  rw [p2]
  generalize sb (h / 256 % 256) = b2
  generalize sb (h % 256) = b3
  unfold KO_X7_signProposal_21 KF_X7_signProposal_21
  have g10 : cI (csA (csA (csA (csA s r 0 b0) r 1 b1) r 2 b2) r (2 + 1) b3) 10 (nd g n) = nI rd := e10
  rw [zsome, zsome, g10, c4, c5, sb2, hv, cL_A, cL_A, cL_A, cL_A, cL_A, cL_A, cL_A, cL_A, cL_A, show rd % 256 = rd by omega]
  exact wp_fin ⟨someN, ⟨someN, ((n_in (by omega)).2 (by omega))⟩, ⟨someN, ((n_in (by omega)).2 (by omega))⟩, trivial⟩ rfl
/-- the bytes of a proposal -/
theorem pr_row {s_ h rd : Nat} {v : Int} {b : List Nat} {b0 b1 b2 b3 b4 b5 : Int32} {R : Nat → Int32} (hh : h < 65536) (e0 : sb 1 = b0) (e1 : sb s_ = b1) (e2 : sb (h / 256 % 256) = b2) (e3 : sb (h % 256) = b3) (e4 : sb rd = b4) (e5 : sb (vrB v) = b5) (R0 : R 0 = b0) (R1 : R 1 = b1) (R2 : R 2 = b2) (R3 : R 3 = b3) (R4 : R 4 = b4) (R5 : R 5 = b5) (R6 : ∀ i, i < b.length → R (6 + i) = sb (bg b i)) : ∀ i, i < (prB s_ h rd v b).length → R i = sb (bg (prB s_ h rd v b) i) := fun i hi => by
  have hl : (prB s_ h rd v b).length = 6 + b.length := by
    show (hdB 1 s_ h rd ++ vrB v :: b).length = _
    rw [List.length_append, List.length_cons]
    show 5 + (b.length + 1) = 6 + b.length
    omega
  have hx : h / 256 % 256 = h / 256 := by omega
  by_cases c : i < 6
  · rcases (show i = 0 ∨ i = 1 ∨ i = 2 ∨ i = 3 ∨ i = 4 ∨ i = 5 by omega) with rfl | rfl | rfl | rfl | rfl | rfl
    · rw [R0, ← e0]
      rfl
    · rw [R1, ← e1]
      rfl
    · rw [R2, ← e2, hx]
      rfl
    · rw [R3, ← e3]
      rfl
    · rw [R4, ← e4]
      rfl
    · rw [R5, ← e5]
      rfl
  · rw [hl] at hi
    have e : i = 6 + (i - 6) := by omega
    rw [e, R6 (i - 6) (by omega)]
    congr 1
    show bg b (i - 6) = bg (hdB 1 s_ h rd ++ vrB v :: b) (6 + (i - 6))
    rw [bg_app]
    have h5 : (hdB 1 s_ h rd).length = 5 := rfl
    rw [h5, if_neg (by omega), show 6 + (i - 6) - 5 = (i - 6) + 1 by omega]
    rfl
theorem prB_len {s_ h rd : Nat} {v : Int} {b : List Nat} : (prB s_ h rd v b).length = 6 + b.length := by
  show (hdB 1 s_ h rd ++ vrB v :: b).length = _
  rw [List.length_append, List.length_cons]
  show 5 + (b.length + 1) = 6 + b.length
  omega
/-- what a state is when again() has written -/
def agS (S : cS) (a : Nat) (f : Nat → Int32) (J : Nat → Int64) : cS := csI (csI (csJrow (csArow S (a + 2) f) (a + 1) J) 5 a (nI 1)) 4 a (nI 1)
theorem agS_o {S : cS} {f : Nat → Int32} {J : Nat → Int64} : cI (agS S a f J) 4 a = nI 1 ∧ cI (agS S a f J) 5 a = nI 1 ∧ cJ (agS S a f J) (a + 1) = J ∧ (∀ i, cA (agS S a f J) (a + 2) i = f i) ∧ mw a S (agS S a f J) := by
  refine ⟨cI_same _ _ _ _, ?_, cJ_same _ _ _, fun i => ?_, ((mw_A.trans mw_J).trans (mw_I (Or.inr rfl))).trans (mw_I (Or.inl rfl))⟩
  · unfold agS
    rw [cI_other _ _ (Or.inl (by decide)), cI_same]
  · show cA (csArow S (a + 2) f) (a + 2) i = f i
    rw [cA_same]
theorem again_1 {o : Nat} {d : List Nat} {b0 b1 b2 b3 b4 b5 : Int32} (h : CR F g H T s ct hd w pe) (hn : n < H) (hl : hd.length ≤ 30) (h1 : 1 ≤ wN w n 1 ∧ wN w n 1 ≤ 41) (h2 : 0 ≤ wN w n 2 ∧ wN w n 2 < 16) (h5 : -1 ≤ wN w n 5 ∧ wN w n 5 < 16) (uo : 1 ≤ us g H T s hd o) (o4 : cI s 4 o = nI 1) (ido : idM (ct o) = some d) (ol : 6 ≤ (ct o).length) (hb0 : sb 1 = b0) (hb1 : sb n = b1) (hb2 : sb ((wN w n 1).toNat / 256 % 256) = b2) (hb3 : sb ((wN w n 1).toNat % 256) = b3) (hb4 : sb (wN w n 2).toNat = b4) (hb5 : sb (vrB (wN w n 5)) = b5) : wp (p_X7_again N g H T s (some (nd g n)) (some o)) (k_X7_again N g H T s (some (nd g n)) (some o)) (fun Z => ∃ a y s1 f J, y.length = (ct o).length ∧ CR F g H T s1 (fun b => if b = a then y else ct b) (a :: hd) w pe ∧ cnA g H T s1 a = 0 ∧ us g H T s hd a = 0 ∧ ffr g H hd s s1 ∧ Z.1 = some a ∧ Z.2 = agS (sgS s1 (a + 2) b0 b1 b2 b3 b4 b5) a f J ∧ (∀ k, k < 32 → lby J k = nI (bg (d) k)) ∧ ∀ i, i < (ct o).length → f i = if 6 ≤ i then sb (bg (ct o) i) else cA (sgS s1 (a + 2) b0 b1 b2 b3 b4 b5) (a + 2) i) := by
  have cb := h.1.bb
  have v1 : iI (wN w n 1) = nI (wN w n 1).toNat := by
    rw [← iI_n]
    congr 1
    omega
  have v2 : iI (wN w n 2) = nI (wN w n 2).toNat := by
    rw [← iI_n]
    congr 1
    omega
  have n13 : n < 13 := by omega
  have k5 := h.2.2.2.1.k uo
  obtain ⟨m1, m2, m3, m4, m5, m6⟩ := (h.2.2.2.1.m uo).1
  show wp (KO_X7_again_0 N g H T (some (nd g n)) (some o) s) (KF_X7_again_0 N g H T (some (nd g n)) (some o) s) _
  unfold KO_X7_again_0 KF_X7_again_0
  rw [zsome, m2]
  refine wp_and someN (wp_and someN (wp_call (fresh_C (N := N) (len := (ct o).length) h hl m6 m4) ?_))
  rintro ⟨a, y, z1, yl, c, ca, ua, i4, i5, f1, mf, f4⟩
  generalize k_X9_fresh N g H T s (g + 11) (nI (ct o).length) = z at z1 c ca i4 i5 f1 mf f4 ⊢
  obtain ⟨z1', s1⟩ := z
  have z1 : z1' = some a := z1
  subst z1
  have c : CR F g H T s1 (fun b => if b = a then y else ct b) (a :: hd) w pe := c
  have f4 : ∀ b, cK s b = 5 → cI s1 4 b = cI s 4 b ∨ b = a := f4
  have f1 : ffr g H hd s s1 := f1
  have ms : mS s1 a y := by
    have q := c.ms (a := a) us_self
    rwa [show (if a = a then y else ct a) = y from if_pos rfl] at q
  have nao : o ≠ a := fun q => by
    rw [q] at uo
    omega
  have ub' : 1 ≤ us g H T s1 (a :: hd) o := by
    rw [us_cons, f1.2.us]
    omega
  have hmb : hM T s1 o (ct o) := by
    have q := c.2.2.2.1.m ub'
    rwa [show (if o = a then y else ct o) = ct o from if_neg nao] at q
  have f4b : cI s1 4 o = nI 1 := by
    rcases f4 o k5 with q | q
    · rw [q]
      exact o4
    · exact absurd q nao
  have ids : ∀ k, k < 32 → lby (cJ s1 (o + 1)) k = nI (bg (d) k) := by
    rcases hmb.2 with ⟨q, _⟩ | ⟨_, _, q⟩ | ⟨q, _⟩
    · rw [f4b] at q
      exact absurd q (by decide)
    · rw [ido] at q
      exact q.2
    · rw [f4b] at q
      exact absurd q (by decide)
  have L : cL s1 (a + 2) = if (ct o).length ≤ 128 then 128 else 1000 := by
    rw [ms.2.2.2.2.1, yl]
  have Lo : cL s1 (o + 2) = if (ct o).length ≤ 128 then 128 else 1000 := hmb.1.2.2.2.2.1
  have L1 : (ct o).length ≤ cL s1 (a + 2) ∧ cL s1 (a + 2) ≤ 1000 := by
    rw [L]
    split <;> omega
  have cell := (c.node hn).1
  have e1 : cI s1 1 (nd g n) = nI n := cell.1
  have e9 : cI s1 9 (nd g n) = nI (wN w n 1).toNat := by rw [← v1]; exact cell.2.2.1
  have e10 : cI s1 10 (nd g n) = nI (wN w n 2).toNat := by rw [← v2]; exact cell.2.2.2.1
  have e13 : cI s1 13 (nd g n) = iI (wN w n 5) := cell.2.2.2.2.2.2.1
  show wp (KO_X7_again_14 N g H T (some (nd g n)) (some o) (some a) s1) (KF_X7_again_14 N g H T (some (nd g n)) (some o) (some a) s1) _
  unfold KO_X7_again_14 KF_X7_again_14
  rw [zsome, zsome, e13]
  obtain ⟨sg1, sg2⟩ := sign_c (N := N) (g := g) (H := H) (T := T) (s := s1) (n := n) (r := a + 2) (x2 := iI (wN w n 5)) (vb := vrB (wN w n 5)) e1 e9 e10 n13 (by omega) (by omega) (vr_b h5) (by omega) (by omega)
  refine wp_and someN (wp_and someN (wp_and sg1 ?_))
  rw [sg2, hb0, hb1, hb2, hb3, hb4, hb5]
  have cf := sgS_c (s := s1) (r := a + 2) (b0 := b0) (b1 := b1) (b2 := b2) (b3 := b3) (b4 := b4) (b5 := b5)
  have cO := sgS_o (s := s1) (r := a + 2) (b0 := b0) (b1 := b1) (b2 := b2) (b3 := b3) (b4 := b4) (b5 := b5)
  generalize hS : sgS s1 (a + 2) b0 b1 b2 b3 b4 b5 = S at cf ⊢
  have no2 : o + 2 ≠ a + 2 := by omega
  have oA : cA S (o + 2) = cA s1 (o + 2) := cf.A _ no2
  rw [hS] at cO
  obtain ⟨oJ', oL, oI⟩ := cO
  have oJ : cJ S (o + 1) = cJ s1 (o + 1) := by rw [oJ']
  have aI : cI S 2 a = nI (ct o).length := by
    rw [oI, ← yl]
    exact ms.2.1
  unfold KO_X7_again_27 KF_X7_again_27
  have c6 : (nI 6).toNatClampNeg = 6 := rfl
  have c0 : (nI 0).toNatClampNeg = 0 := rfl
  have c4 : (nI 4).toNatClampNeg = 4 := rfl
  rw [zsome, zsome, aI, n_sub (by omega), c6, nI_clamp (by omega), oL]
  have gr : ∀ i, i < (ct o).length → va_cpy (cA S (o + 2)) (cA S (a + 2)) 6 6 ((ct o).length - 6) i = if 6 ≤ i then sb (bg (ct o) i) else cA S (a + 2) i := fun i hi => by
    unfold va_cpy
    by_cases d : 6 ≤ i
    · rw [if_pos ⟨d, by omega⟩, if_pos d, oA, show 6 + (i - 6) = i by omega]
      exact hmb.1.2.2.1.2.2.1 i hi
    · rw [if_neg (fun q => d q.1), if_neg d]
  generalize va_cpy (cA S (o + 2)) (cA S (a + 2)) 6 6 ((ct o).length - 6) = f at gr ⊢
  refine wp_and someN (wp_and someN (wp_and ⟨⟨by decide, by decide, nI_pos (by omega)⟩, by rw [Lo]; split <;> omega, by omega⟩ ?_))
  unfold KO_X7_again_49 KF_X7_again_49 KO_X7_again_63 KF_X7_again_63 KO_X7_again_73 KF_X7_again_73
  rw [zsome, zsome, c0, c4]
  rw [cJ_row, oJ]
  generalize cJ S (a + 1) = J0
  have lb : ∀ k, k < 32 → lby (va_cpy (cJ s1 (o + 1)) J0 0 0 4) k = nI (bg (d) k) := fun k hk' => by
    have e : va_cpy (cJ s1 (o + 1)) J0 0 0 4 (k / 8) = cJ s1 (o + 1) (k / 8) := by
      unfold va_cpy
      rw [if_pos ⟨Nat.zero_le _, by omega⟩]
      simp
    unfold lby
    rw [e]
    exact ids k hk'
  generalize va_cpy (cJ s1 (o + 1)) J0 0 0 4 = J at lb ⊢
  refine wp_fin ⟨someN, someN, ⟨⟨by decide, by decide, by decide⟩, by decide, by decide⟩, someN, trivial⟩ ⟨a, y, s1, f, J, yl, c, ca, ua, f1, rfl, ?_, lb, ?_⟩
  · rw [hS]
    rfl
  · rw [hS]
    exact gr
theorem again_C {o : Nat} {b : List Nat} (hN : 100 ≤ N) (h : CR F g H T s ct hd w pe) (hn : n < H) (hl : hd.length ≤ 30) (h1 : 1 ≤ wN w n 1 ∧ wN w n 1 ≤ 41) (h2 : 0 ≤ wN w n 2 ∧ wN w n 2 < 16) (h5 : -1 ≤ wN w n 5 ∧ wN w n 5 < 16) (ho : cR s 15 (nd g n) = some o) (hb : wY w n 1 0 = some b) (hw : blkWf T b) (hBb : isB b) (ht : tw b 0 = (wN w n 1).toNat) : wp (p_X7_again N g H T s (some (nd g n)) (some o)) (k_X7_again N g H T s (some (nd g n)) (some o)) (fun z => mkC F g H T s ct hd w pe (prM w n (wN w n 5) b) z ∧ ∀ a, z.1 = some a → cI z.2 4 a = nI 1) := by
  have cb := h.1.bb
  have v1 : iI (wN w n 1) = nI (wN w n 1).toNat := by
    rw [← iI_n]
    congr 1
    omega
  have v2 : iI (wN w n 2) = nI (wN w n 2).toNat := by
    rw [← iI_n]
    congr 1
    omega
  have n13 : n < 13 := by omega
  have co := cnA_hf (g := g) (H := H) (T := T) hn (Or.inr rfl) ho
  have uo : 1 ≤ us g H T s hd o := by
    unfold us
    omega
  have k5 := h.2.2.2.1.k uo
  have qk := (h.node hn).2.2.2.2.2.2.2.2.2.2.1
  have ob : (ct o).drop 6 = b := by
    have q := qk.2.1
    rw [ho, hb] at q
    exact Option.some.inj q
  have o0 : bg (ct o) 0 = 1 := qk.2.2 15 o (Or.inr rfl) ho
  have o4 : cI s 4 o = nI 1 := h.2.2.2.1.2.2.2.2.2 n 15 o hn (Or.inr rfl) ho
  have mo := h.2.2.2.1.m uo
  obtain ⟨m1, m2, m3, m4, m5, m6⟩ := mo.1
  have wfo : wf T (ct o) ∧ nmC s o (idM (ct o)) := by
    rcases mo.2 with ⟨q, _⟩ | ⟨_, q⟩ | ⟨q, _⟩
    · rw [o4] at q
      exact absurd q (by decide)
    · exact q
    · rw [o4] at q
      exact absurd q (by decide)
  have bl : 101 ≤ b.length := hw.1
  have ol : (ct o).length = 6 + b.length := by
    rw [← ob, List.length_drop] at *
    omega
  have ido : idM (ct o) = some (idB b) := by
    unfold idM
    rw [if_pos o0, ob]
  have ids0 : ∀ k, k < 32 → lby (cJ s (o + 1)) k = nI (bg (idB b) k) := by
    have q := wfo.2
    rw [ido] at q
    exact q.2
  obtain ⟨b0, hb0⟩ : ∃ x, sb 1 = x := ⟨_, rfl⟩
  obtain ⟨b1, hb1⟩ : ∃ x, sb n = x := ⟨_, rfl⟩
  obtain ⟨b2, hb2⟩ : ∃ x, sb ((wN w n 1).toNat / 256 % 256) = x := ⟨_, rfl⟩
  obtain ⟨b3, hb3⟩ : ∃ x, sb ((wN w n 1).toNat % 256) = x := ⟨_, rfl⟩
  obtain ⟨b4, hb4⟩ : ∃ x, sb (wN w n 2).toNat = x := ⟨_, rfl⟩
  obtain ⟨b5, hb5⟩ : ∃ x, sb (vrB (wN w n 5)) = x := ⟨_, rfl⟩
  have hw' := again_1 (N := N) h hn hl h1 h2 h5 uo o4 ido (by omega) hb0 hb1 hb2 hb3 hb4 hb5
  have st := (kpc_X7_again h.2.1 (tN_some (isO5 hn)) (tK_some k5) hw'.1).1
  refine wp_fin hw'.1 ?_
  obtain ⟨a, y, s1, f, J, yl, c, ca, ua, f1, e0, e, lb, ff⟩ := hw'.2
  generalize k_X7_again N g H T s (some (nd g n)) (some o) = Z at st e0 e ⊢
  obtain ⟨Z1, Z2⟩ := Z
  have e0 : Z1 = some a := e0
  subst e0
  have st : St 0 g H T Z2 := st
  have e : Z2 = agS (sgS s1 (a + 2) b0 b1 b2 b3 b4 b5) a f J := e
  obtain ⟨k4, k5', kJ, kA, kw⟩ := agS_o (S := sgS s1 (a + 2) b0 b1 b2 b3 b4 b5) (a := a) (J := J) (f := f)
  rw [← e] at k4 k5' kJ kA kw
  have rr := fun i => sgS_r (s := s1) (r := a + 2) (b0 := b0) (b1 := b1) (b2 := b2) (b3 := b3) (b4 := b4) (b5 := b5) i
  have hw2 : mw a s1 Z2 := sgS_w.trans kw
  obtain ⟨t1, t2, t3, t4⟩ := prB_ok (T := T) (n := n) (h := (wN w n 1).toNat) (r := (wN w n 2).toNat) (v := wN w n 5) (b := b) (by omega) (by omega) (by omega) (by omega) (by omega) h5 hw hBb ht
  obtain ⟨p0, -, -, p6⟩ := bg_pr (s := n) (h := (wN w n 1).toNat) (r := (wN w n 2).toNat) (b := b) h5
  have p0 : bg (prM w n (wN w n 5) b) 0 = 1 := p0
  have p6 : (prM w n (wN w n 5) b).drop 6 = b := p6
  have low : ∀ i, i < 6 → cA Z2 (a + 2) i = cA (sgS s1 (a + 2) b0 b1 b2 b3 b4 b5) (a + 2) i := fun i hi => by rw [kA, ff i (by omega), if_neg (by omega)]
  refine ⟨mk_row (m := prM w n (wN w n 5) b) c ca ua f1 hw2 st (by unfold prM; rw [prB_len, yl, ol]) t3 (pr_row (by omega) hb0 hb1 hb2 hb3 hb4 hb5 (by rw [low 0 (by decide), rr]; rfl) (by rw [low 1 (by decide), rr]; rfl) (by rw [low 2 (by decide), rr]; rfl) (by rw [low 3 (by decide), rr]; rfl) (by rw [low 4 (by decide), rr]; rfl) (by rw [low 5 (by decide), rr]; rfl) (fun i hi => ?_)) (Or.inr (Or.inl ⟨k4, Or.inr (Or.inl ⟨p0, t4⟩), ?_⟩)), fun a' q => by cases q; exact k4⟩
  · rw [kA, ff (6 + i) (by omega), if_pos (by omega), ← ob, bg_drop]
  · have : idM (prM w n (wN w n 5) b) = some (idB b) := by
      unfold idM
      rw [if_pos p0, p6]
    rw [this]
    refine ⟨k5', fun k hk' => ?_⟩
    rw [kJ]
    exact lb k hk'
end
end
