section
/-! THE CLASS MAKES A VOTE -/
section
variable {F N g H T n : Nat} {s s' s1 s2 : cS} {ct ct' : Nat → List Nat} {hd : List Nat} {w : Wd} {pe : Nat → Int} {a : Nat} {m : List Nat}
/-- how long a vote is -/
def voL (o : Option (List Nat)) : Nat := match o with
  | none => 6
  | some _ => 38
def voS (s1 : cS) (a : Nat) (b0 b1 b2 b3 b4 b5 : Int32) : cS := csI (csA (csA (csA (csA (csA (csA s1 (a + 2) 0 b0) (a + 2) 1 b1) (a + 2) 2 b2) (a + 2) (2 + 1) b3) (a + 2) 4 b4) (a + 2) 5 b5) 4 a (nI 1)
theorem voS_w {b0 b1 b2 b3 b4 b5 : Int32} : mw a s1 (voS s1 a b0 b1 b2 b3 b4 b5) := (((((mw_a.trans mw_a).trans mw_a).trans mw_a).trans mw_a).trans mw_a).trans (mw_I (Or.inl rfl))
theorem voS_r {b0 b1 b2 b3 b4 b5 : Int32} (i : Nat) : cA (voS s1 a b0 b1 b2 b3 b4 b5) (a + 2) i = if i = 5 then b5 else if i = 4 then b4 else if i = 2 + 1 then b3 else if i = 2 then b2 else if i = 1 then b1 else if i = 0 then b0 else cA s1 (a + 2) i := by
  unfold voS
  rw [cA_I, cA_at, cA_at, cA_at, cA_at, cA_at, cA_at]
theorem voS_o {b0 b1 b2 b3 b4 b5 : Int32} : cI (voS s1 a b0 b1 b2 b3 b4 b5) 4 a = nI 1 ∧ cI (voS s1 a b0 b1 b2 b3 b4 b5) 5 a = cI s1 5 a ∧ cJ (voS s1 a b0 b1 b2 b3 b4 b5) = cJ s1 ∧ cL (voS s1 a b0 b1 b2 b3 b4 b5) = cL s1 := by
  refine ⟨cI_same _ _ _ _, ?_, rfl, rfl⟩
  unfold voS
  rw [cI_other _ _ (Or.inl (by decide))]
  rfl
/-- the id of a proposal is taken over -/
theorem idS_o {S : cS} {J : Nat → Int64} {f : Nat → Int32} : cI (csArow (csI (csJrow S (a + 1) J) 5 a (nI 1)) (a + 2) f) 4 a = cI S 4 a ∧ cI (csArow (csI (csJrow S (a + 1) J) 5 a (nI 1)) (a + 2) f) 5 a = nI 1 ∧ cJ (csArow (csI (csJrow S (a + 1) J) 5 a (nI 1)) (a + 2) f) (a + 1) = J ∧ (∀ i, cA (csArow (csI (csJrow S (a + 1) J) 5 a (nI 1)) (a + 2) f) (a + 2) i = f i) ∧ mw a S (csArow (csI (csJrow S (a + 1) J) 5 a (nI 1)) (a + 2) f) := by
  refine ⟨?_, cI_same _ _ _ _, cJ_same _ _ _, fun i => by rw [cA_same], (mw_J.trans (mw_I (Or.inr rfl))).trans mw_A⟩
  show cI (csI (csJrow S (a + 1) J) 5 a (nI 1)) 4 a = _
  rw [cI_other _ _ (Or.inl (by decide))]
  rfl
theorem vt_id {S : cS} {pb : Nat} {d : List Nat} (hN : 100 ≤ N) (hL : cL S (a + 2) = 128) (ids : ∀ k, k < 32 → lby (cJ S (pb + 1)) k = nI (bg d k)) (dB : isB d) : wp (KO_X6_vote_85 N g H T (some pb) (some a) S) (KF_X6_vote_85 N g H T (some pb) (some a) S) (fun Z => Z.1 = some a ∧ ∃ J f, Z.2 = csArow (csI (csJrow S (a + 1) J) 5 a (nI 1)) (a + 2) f ∧ (∀ k, k < 32 → lby J k = nI (bg d k)) ∧ ∀ i, f i = if 6 ≤ i ∧ i < 6 + 32 then sb (bg d (i - 6)) else cA S (a + 2) i) := by
  have c0 : (nI 0).toNatClampNeg = 0 := rfl
  have c4 : (nI 4).toNatClampNeg = 4 := rfl
  unfold KO_X6_vote_85 KF_X6_vote_85
  rw [zsome, zsome, c0, c4]
  refine wp_neg someN (wp_and someN (wp_and ⟨⟨by decide, by decide, by decide⟩, by decide, by decide⟩ ?_))
  have lb : ∀ k, k < 32 → lby (va_cpy (cJ S (pb + 1)) (cJ S (a + 1)) 0 0 4) k = nI (bg d k) := fun k hk' => by
    have e : va_cpy (cJ S (pb + 1)) (cJ S (a + 1)) 0 0 4 (k / 8) = cJ S (pb + 1) (k / 8) := by
      unfold va_cpy
      rw [if_pos ⟨Nat.zero_le _, by omega⟩]
      simp
    unfold lby
    rw [e]
    exact ids k hk'
  generalize va_cpy (cJ S (pb + 1)) (cJ S (a + 1)) 0 0 4 = J at lb ⊢
  unfold KO_X6_vote_103 KF_X6_vote_103 KO_X6_vote_118 KF_X6_vote_118
  rw [zsome]
  have cj : cJ (csI (csJrow S (a + 1) J) 5 a (nI 1)) (a + 1) = J := cJ_same _ _ _
  have L6 : cL (csI (csJrow S (a + 1) J) 5 a (nI 1)) (a + 2) = 128 := hL
  have wi := wrId_ok (N := N) (g := g) (H := H) (T := T) (s := csI (csJrow S (a + 1) J) 5 a (nI 1)) (a := a) (r := a + 2) (at_ := 6) (d := d) hN (by rw [cj]; exact lb) dB (by rw [L6]; decide) (by rw [L6]; decide)
  obtain ⟨f, fe, ff⟩ := wi.2
  exact wp_and someN (wp_and wi.1 (wp_fin trivial ⟨rfl, J, f, fe, lb, ff⟩))
/-- the proposal that a vote is for -/
def vpO (g H T : Nat) (s : cS) (ct : Nat → List Nat) (hd : List Nat) (xo : Option Nat) (o : Option (List Nat)) : Prop := (xo = none ∧ o = none) ∨ ∃ b d, xo = some b ∧ o = some d ∧ 1 ≤ us g H T s hd b ∧ cI s 4 b = nI 1 ∧ idM (ct b) = some d ∧ d.length = 32 ∧ isB d
theorem vote_C {kd : Nat} {xo : Option Nat} {o : Option (List Nat)} (hN : 100 ≤ N) (h : CR F g H T s ct hd w pe) (hn : n < H) (hl : hd.length ≤ 30) (hk : kd = 2 ∨ kd = 3) (h1 : 1 ≤ wN w n 1 ∧ wN w n 1 ≤ 41) (h2 : 0 ≤ wN w n 2 ∧ wN w n 2 < 16) (hx : vpO g H T s ct hd xo o) : wp (p_X6_vote N g H T s (nd g n) (nI kd) xo) (k_X6_vote N g H T s (nd g n) (nI kd) xo) (fun z => mkC F g H T s ct hd w pe (vtM w n kd o) z ∧ ∀ a, z.1 = some a → cI z.2 4 a = nI 1) := by
  have cb := h.1.bb
  have v1 : iI (wN w n 1) = nI (wN w n 1).toNat := by
    rw [← iI_n]
    congr 1
    omega
  have v2 : iI (wN w n 2) = nI (wN w n 2).toNat := by
    rw [← iI_n]
    congr 1
    omega
  have n13 : n < 13 := by omega
  -- the state that is reached
  have hw : wp (p_X6_vote N g H T s (nd g n) (nI kd) xo) (k_X6_vote N g H T s (nd g n) (nI kd) xo) (fun Z => ∃ a y s1, frC F g H T y.length s ct hd w pe (some a, s1) ∧ y.length = voL o ∧ CR F g H T s1 (fun b => if b = a then y else ct b) (a :: hd) w pe ∧ cnA g H T s1 a = 0 ∧ us g H T s hd a = 0 ∧ cI s1 5 a = nI 0 ∧ ffr g H hd s s1 ∧ Z.1 = some a ∧ ((o = none ∧ Z.2 = voS s1 a (sb kd) (sb n) (sb ((wN w n 1).toNat / 256 % 256)) (sb ((wN w n 1).toNat % 256)) (sb (wN w n 2).toNat) (sb 0)) ∨ ∃ d J f, o = some d ∧ Z.2 = csArow (csI (csJrow (voS s1 a (sb kd) (sb n) (sb ((wN w n 1).toNat / 256 % 256)) (sb ((wN w n 1).toNat % 256)) (sb (wN w n 2).toNat) (sb 1)) (a + 1) J) 5 a (nI 1)) (a + 2) f ∧ (∀ k, k < 32 → lby J k = nI (bg d k)) ∧ ∀ i, f i = if 6 ≤ i ∧ i < 6 + 32 then sb (bg d (i - 6)) else cA (voS s1 a (sb kd) (sb n) (sb ((wN w n 1).toNat / 256 % 256)) (sb ((wN w n 1).toNat % 256)) (sb (wN w n 2).toNat) (sb 1)) (a + 2) i)) := by
    show wp (KO_X6_vote_0 N g H T (some (nd g n)) (nI kd) xo s) (KF_X6_vote_0 N g H T (some (nd g n)) (nI kd) xo s) _
    unfold KO_X6_vote_0 KF_X6_vote_0
    refine wp_and someN ?_
    have go : ∀ len : Nat, len = voL o → wp (KO_X6_vote_18 N g H T (some (nd g n)) (nI kd) xo (g + 11) (nI len) s) (KF_X6_vote_18 N g H T (some (nd g n)) (nI kd) xo (g + 11) (nI len) s) (fun Z => ∃ a y s1, frC F g H T y.length s ct hd w pe (some a, s1) ∧ y.length = voL o ∧ CR F g H T s1 (fun b => if b = a then y else ct b) (a :: hd) w pe ∧ cnA g H T s1 a = 0 ∧ us g H T s hd a = 0 ∧ cI s1 5 a = nI 0 ∧ ffr g H hd s s1 ∧ Z.1 = some a ∧ ((o = none ∧ Z.2 = voS s1 a (sb kd) (sb n) (sb ((wN w n 1).toNat / 256 % 256)) (sb ((wN w n 1).toNat % 256)) (sb (wN w n 2).toNat) (sb 0)) ∨ ∃ d J f, o = some d ∧ Z.2 = csArow (csI (csJrow (voS s1 a (sb kd) (sb n) (sb ((wN w n 1).toNat / 256 % 256)) (sb ((wN w n 1).toNat % 256)) (sb (wN w n 2).toNat) (sb 1)) (a + 1) J) 5 a (nI 1)) (a + 2) f ∧ (∀ k, k < 32 → lby J k = nI (bg d k)) ∧ ∀ i, f i = if 6 ≤ i ∧ i < 6 + 32 then sb (bg d (i - 6)) else cA (voS s1 a (sb kd) (sb n) (sb ((wN w n 1).toNat / 256 % 256)) (sb ((wN w n 1).toNat % 256)) (sb (wN w n 2).toNat) (sb 1)) (a + 2) i)) := fun len hlen => by
      unfold KO_X6_vote_18 KF_X6_vote_18
      have ll : 6 ≤ len ∧ len ≤ 38 := by
        rw [hlen]
        cases o with
        | none => exact ⟨Nat.le_refl _, (by decide : 6 ≤ 38)⟩
        | some d => exact ⟨(by decide : 6 ≤ 38), Nat.le_refl _⟩
      refine wp_call (fresh_C (N := N) (len := len) h hl (by omega) (by omega)) ?_
      intro fr
      have fr' := fr
      obtain ⟨a, y, z1, yl, c, ca, ua, i4, i5, f1, mf, f4⟩ := fr
      generalize k_X9_fresh N g H T s (g + 11) (nI len) = z at z1 c ca i4 i5 f1 mf f4 fr' ⊢
      obtain ⟨z1', s1⟩ := z
      have z1 : z1' = some a := z1
      subst z1
      have c : CR F g H T s1 (fun b => if b = a then y else ct b) (a :: hd) w pe := c
      have i5 : cI s1 5 a = nI 0 := i5
      have f4 : ∀ b, cK s b = 5 → cI s1 4 b = cI s 4 b ∨ b = a := f4
      have ms : mS s1 a y := by
        have q := c.ms (a := a) us_self
        rwa [show (if a = a then y else ct a) = y from if_pos rfl] at q
      have L : cL s1 (a + 2) = 128 := by
        rw [ms.2.2.2.2.1, yl, if_pos (by omega)]
      have cell := (c.node hn).1
      have e1 : cI s1 1 (nd g n) = nI n := cell.1
      have e9 : cI s1 9 (nd g n) = nI (wN w n 1).toNat := by rw [← v1]; exact cell.2.2.1
      have e10 : cI s1 10 (nd g n) = nI (wN w n 2).toNat := by rw [← v2]; exact cell.2.2.2.1
      have c0 : (nI 0).toNatClampNeg = 0 := rfl
      have c1 : (nI 1).toNatClampNeg = 1 := rfl
      have c4 : (nI 4).toNatClampNeg = 4 := rfl
      have c5 : (nI 5).toNatClampNeg = 5 := rfl
      show wp (KO_X6_vote_21 N g H T (some (nd g n)) (nI kd) xo (some a) s1) (KF_X6_vote_21 N g H T (some (nd g n)) (nI kd) xo (some a) s1) _
      unfold KO_X6_vote_21 KF_X6_vote_21
      have g1 : ∀ v, cI (csA s1 (a + 2) 0 v) 1 (nd g n) = nI n := fun _ => e1
      rw [zsome, zsome, c0, c1, g1, cL_A, L, sb2, sb2, show kd % 256 = kd by omega, show n % 256 = n by omega]
      refine wp_and someN (wp_and ((n_in (by omega)).2 (by omega)) (wp_and someN (wp_and ((n_in (by omega)).2 (by omega)) ?_)))
      unfold KO_X6_vote_41 KF_X6_vote_41
      have g9 : ∀ v v', cI (csA (csA s1 (a + 2) 0 v) (a + 2) 1 v') 9 (nd g n) = nI (wN w n 1).toNat := fun _ _ => e9
      rw [zsome, zsome, g9]
      generalize hb0 : sb kd = b0
      generalize hb1 : sb n = b1
      obtain ⟨p1, p2⟩ := putTwo_c (N := N) (g := g) (H := H) (T := T) (s := csA (csA s1 (a + 2) 0 b0) (a + 2) 1 b1) (r := a + 2) (a := 2) (x := (wN w n 1).toNat) (by rw [cL_A, cL_A, L]; decide) (by rw [cL_A, cL_A, L]; decide) (by omega)
      generalize hb2 : sb ((wN w n 1).toNat / 256 % 256) = b2 at p2 ⊢
      generalize hb3 : sb ((wN w n 1).toNat % 256) = b3 at p2 ⊢
      refine wp_and someN (wp_and someN (wp_and p1 ?_))
      rw [p2]
      unfold KO_X6_vote_53 KF_X6_vote_53
      have g10 : cI (csA (csA (csA (csA s1 (a + 2) 0 b0) (a + 2) 1 b1) (a + 2) 2 b2) (a + 2) (2 + 1) b3) 10 (nd g n) = nI (wN w n 2).toNat := e10
      rw [zsome, zsome, g10, c4, sb2, show (wN w n 2).toNat % 256 = (wN w n 2).toNat by omega, cL_A, cL_A, cL_A, cL_A, L]
      generalize hb4 : sb (wN w n 2).toNat = b4
      refine wp_and someN (wp_and someN (wp_and ((n_in (by omega)).2 (by omega)) ?_))
      have L5 : cL (csA (csA (csA (csA (csA s1 (a + 2) 0 b0) (a + 2) 1 b1) (a + 2) 2 b2) (a + 2) (2 + 1) b3) (a + 2) 4 b4) (a + 2) = 128 := by rw [cL_A, cL_A, cL_A, cL_A, cL_A, L]
      rcases hx with ⟨rfl, rfl⟩ | ⟨pb, d, rfl, rfl, ub, f1b, idb, dl, dB⟩
      · refine wp_pos rfl ?_
        unfold KO_X6_vote_78 KF_X6_vote_78 KO_X6_vote_85 KF_X6_vote_85 KO_X6_vote_118 KF_X6_vote_118
        rw [zsome, zsome, c5, sb2, L5]
        refine wp_and ⟨someN, ((n_in (by omega)).2 (by omega))⟩ (wp_and someN (wp_pos rfl (wp_fin trivial ⟨a, y, s1, by rw [yl]; exact fr', by rw [yl]; exact hlen, c, ca, ua, i5, f1, rfl, Or.inl ⟨rfl, rfl⟩⟩)))
      · refine wp_neg someN ?_
        unfold KO_X6_vote_78 KF_X6_vote_78
        rw [zsome, zsome, c5, sb2, L5]
        have sb1 : sb (1 % 256) = sb 1 := rfl
        rw [sb1]
        generalize hb5 : sb 1 = b5
        refine wp_and ⟨someN, ((n_in (by omega)).2 (by omega))⟩ (wp_and someN ?_)
        have ev : csI (csA (csA (csA (csA (csA (csA s1 (a + 2) 0 b0) (a + 2) 1 b1) (a + 2) 2 b2) (a + 2) (2 + 1) b3) (a + 2) 4 b4) (a + 2) 5 b5) 4 a (nI 1) = voS s1 a b0 b1 b2 b3 b4 b5 := rfl
        rw [ev]
        obtain ⟨o4, o5, oJ, oL⟩ := voS_o (s1 := s1) (a := a) (b0 := b0) (b1 := b1) (b2 := b2) (b3 := b3) (b4 := b4) (b5 := b5)
        have L6 : cL (voS s1 a b0 b1 b2 b3 b4 b5) (a + 2) = 128 := by rw [oL]; exact L
        have nab : pb ≠ a := fun q => by
          rw [q] at ub
          omega
        have k5 := h.2.2.2.1.k ub
        have f4b : cI s1 4 pb = nI 1 := by
          rcases f4 pb k5 with q | q
          · rw [q]
            exact f1b
          · exact absurd q nab
        have ub' : 1 ≤ us g H T s1 (a :: hd) pb := by
          rw [us_cons, f1.2.us]
          omega
        have hmb := c.2.2.2.1.m ub'
        have hmb' : hM T s1 pb (ct pb) := by
          have q : (if pb = a then y else ct pb) = ct pb := if_neg nab
          rwa [show (if pb = a then y else ct pb) = ct pb from q] at hmb
        have ids : ∀ k, k < 32 → lby (cJ s1 (pb + 1)) k = nI (bg d k) := by
          rcases hmb'.2 with ⟨q, _⟩ | ⟨_, _, q⟩ | ⟨q, _⟩
          · rw [f4b] at q
            exact absurd q (by decide)
          · rw [idb] at q
            exact q.2
          · rw [f4b] at q
            exact absurd q (by decide)
        refine wp_mono (vt_id (N := N) (g := g) (H := H) (T := T) (a := a) hN L6 (by rw [oJ]; exact ids) dB) ?_
        rintro ⟨w1, J, f, w2, w3, w4⟩
        exact ⟨a, y, s1, by rw [yl]; exact fr', by rw [yl]; exact hlen, c, ca, ua, i5, f1, w1, Or.inr ⟨d, J, f, rfl, w2, w3, w4⟩⟩
    rcases hx with ⟨e1, e2⟩ | ⟨b, d, e1, e2, -⟩
    · exact wp_pos e1 (go 6 (by rw [e2]; rfl))
    · exact wp_neg (by rw [e1]; exact someN) (go 38 (by rw [e2]; rfl))
  have tx : tK s 5 xo := by
    rcases hx with ⟨e1, -⟩ | ⟨b, d, e1, -, ub, -⟩
    · rw [e1]
      exact tK_none
    · rw [e1]
      exact tK_some (h.2.2.2.1.k ub)
  have st := (kpc_X6_vote h.2.1 (isO5 hn) tx hw.1).1
  refine wp_fin hw.1 ?_
  obtain ⟨a, y, s1, -, yl, c, ca, ua, i5, f1, e0, eo⟩ := hw.2
  generalize k_X6_vote N g H T s (nd g n) (nI kd) xo = Z at st e0 eo ⊢
  obtain ⟨Z1, Z2⟩ := Z
  have e0 : Z1 = some a := e0
  subst e0
  have st : St 0 g H T Z2 := st
  have ho : ∀ d, o = some d → d.length = 32 ∧ isB d := fun d hd' => by
    rcases hx with ⟨-, e2⟩ | ⟨b, d', -, e2, -, -, -, dl, dB⟩
    · rw [e2] at hd'
      cases hd'
    · rw [e2] at hd'
      cases hd'
      exact ⟨dl, dB⟩
  obtain ⟨t1, t2, t3, t4⟩ := vtB_ok (T := T) (k := kd) (n := n) (h := (wN w n 1).toNat) (r := (wN w n 2).toNat) (o := o) (by omega) (by omega) (by omega) (by omega) (by omega) (by omega) ho
  obtain ⟨u0, u4, u5⟩ := bg_vt (k := kd) (s := n) (h := (wN w n 1).toNat) (r := (wN w n 2).toNat) o
  have wf_ : wf T (vtM w n kd o) := Or.inr (Or.inr (Or.inl ⟨by unfold vtM; rw [u0]; exact hk, t4⟩))
  have eZ : (o = none ∧ Z2 = voS s1 a (sb kd) (sb n) (sb ((wN w n 1).toNat / 256 % 256)) (sb ((wN w n 1).toNat % 256)) (sb (wN w n 2).toNat) (sb 0)) ∨ ∃ d J f, o = some d ∧ Z2 = csArow (csI (csJrow (voS s1 a (sb kd) (sb n) (sb ((wN w n 1).toNat / 256 % 256)) (sb ((wN w n 1).toNat % 256)) (sb (wN w n 2).toNat) (sb 1)) (a + 1) J) 5 a (nI 1)) (a + 2) f ∧ (∀ k, k < 32 → lby J k = nI (bg d k)) ∧ ∀ i, f i = if 6 ≤ i ∧ i < 6 + 32 then sb (bg d (i - 6)) else cA (voS s1 a (sb kd) (sb n) (sb ((wN w n 1).toNat / 256 % 256)) (sb ((wN w n 1).toNat % 256)) (sb (wN w n 2).toNat) (sb 1)) (a + 2) i := eo
  clear eo
  have al : (vtM w n kd o).length = y.length := by
    rw [yl]
    rcases t4.2 with ⟨q1, q2⟩ | ⟨q1, q2⟩
    · rw [u5] at q2
      cases o with
      | none => exact q1
      | some d => exact absurd (show (1 : Nat) = 0 from q2) (by decide)
    · rw [u5] at q2
      cases o with
      | none => exact absurd (show (0 : Nat) = 1 from q2) (by decide)
      | some d => exact q1
  rcases eZ with ⟨on, e⟩ | ⟨d, J, f, on, e, lb, ff⟩
  · subst on
    generalize hb0 : sb kd = b0 at e
    generalize hb1 : sb n = b1 at e
    generalize hb2 : sb ((wN w n 1).toNat / 256 % 256) = b2 at e
    generalize hb3 : sb ((wN w n 1).toNat % 256) = b3 at e
    generalize hb4 : sb (wN w n 2).toNat = b4 at e
    generalize hb5 : sb 0 = b5 at e
    obtain ⟨o4, o5, oJ, oL⟩ := voS_o (s1 := s1) (a := a) (b0 := b0) (b1 := b1) (b2 := b2) (b3 := b3) (b4 := b4) (b5 := b5)
    have rr := fun i => voS_r (s1 := s1) (a := a) (b0 := b0) (b1 := b1) (b2 := b2) (b3 := b3) (b4 := b4) (b5 := b5) i
    have hw' := voS_w (s1 := s1) (a := a) (b0 := b0) (b1 := b1) (b2 := b2) (b3 := b3) (b4 := b4) (b5 := b5)
    rw [← e] at o4 o5 rr hw'
    refine ⟨mk_row c ca ua f1 hw' st al t3 (vt_row none (by omega) (by omega) (by omega) (by omega) hb0.symm hb1.symm hb2.symm hb3.symm hb4.symm hb5.symm rfl (by rw [rr]; rfl) (by rw [rr]; rfl) (by rw [rr]; rfl) (by rw [rr]; rfl) (by rw [rr]; rfl) (by rw [rr]; rfl) (fun d q => by cases q) (fun d q => by cases q)) (Or.inr (Or.inl ⟨o4, wf_, ?_⟩)), fun a' q => by cases q; exact o4⟩
    have : idM (vtM w n kd none) = none := by
      unfold idM
      have z0 : bg (vtM w n kd none) 0 = kd := u0
      have z5 : bg (vtM w n kd none) 5 = 0 := u5
      rw [z0, z5, if_neg (by omega), if_neg (by omega), if_neg (by omega)]
    rw [this]
    show cI Z2 5 a = nI 0
    rw [o5]
    exact i5
  · subst on
    generalize hb0 : sb kd = b0 at e ff
    generalize hb1 : sb n = b1 at e ff
    generalize hb2 : sb ((wN w n 1).toNat / 256 % 256) = b2 at e ff
    generalize hb3 : sb ((wN w n 1).toNat % 256) = b3 at e ff
    generalize hb4 : sb (wN w n 2).toNat = b4 at e ff
    generalize hb5 : sb 1 = b5 at e ff
    obtain ⟨o4, o5, oJ, oL⟩ := voS_o (s1 := s1) (a := a) (b0 := b0) (b1 := b1) (b2 := b2) (b3 := b3) (b4 := b4) (b5 := b5)
    have rr := fun i => voS_r (s1 := s1) (a := a) (b0 := b0) (b1 := b1) (b2 := b2) (b3 := b3) (b4 := b4) (b5 := b5) i
    have hw0 := voS_w (s1 := s1) (a := a) (b0 := b0) (b1 := b1) (b2 := b2) (b3 := b3) (b4 := b4) (b5 := b5)
    obtain ⟨k4, k5, kJ, kA, kw⟩ := idS_o (S := voS s1 a b0 b1 b2 b3 b4 b5) (a := a) (J := J) (f := f)
    rw [← e] at k4 k5 kJ kA kw
    have hw' : mw a s1 Z2 := hw0.trans kw
    have q4 : cI Z2 4 a = nI 1 := k4.trans o4
    have q5 : cI Z2 5 a = nI 1 := k5
    have qJ : cJ Z2 (a + 1) = J := kJ
    have row : ∀ i, cA Z2 (a + 2) i = f i := kA
    obtain ⟨dl, dB⟩ := ho d rfl
    have low : ∀ i, i < 6 → cA Z2 (a + 2) i = cA (voS s1 a b0 b1 b2 b3 b4 b5) (a + 2) i := fun i hi => by rw [row, ff, if_neg (by omega)]
    refine ⟨mk_row c ca ua f1 hw' st al t3 (vt_row (some d) (by omega) (by omega) (by omega) (by omega) hb0.symm hb1.symm hb2.symm hb3.symm hb4.symm hb5.symm rfl (by rw [low 0 (by decide), rr]; rfl) (by rw [low 1 (by decide), rr]; rfl) (by rw [low 2 (by decide), rr]; rfl) (by rw [low 3 (by decide), rr]; rfl) (by rw [low 4 (by decide), rr]; rfl) (by rw [low 5 (by decide), rr]; rfl) (fun d' q i hi => by
      cases q
      rw [row, ff, if_pos (by omega), show 6 + i - 6 = i by omega]) (fun d' q => by cases q; exact dl)) (Or.inr (Or.inl ⟨q4, wf_, ?_⟩)), fun a' q => by cases q; exact q4⟩
    have : idM (vtM w n kd (some d)) = some (sl (vtM w n kd (some d)) 6 32) := by
      unfold idM
      have z0 : bg (vtM w n kd (some d)) 0 = kd := u0
      have z5 : bg (vtM w n kd (some d)) 5 = 1 := u5
      rw [z0, z5, if_neg (by omega), if_neg (by omega), if_pos ⟨by omega, rfl⟩]
    rw [this]
    refine ⟨q5, fun k hk' => ?_⟩
    rw [qJ, lb k hk', sl_in hk']
    have z := voD_vs (k := kd) (s := n) (h := (wN w n 1).toNat) (r := (wN w n 2).toNat) dl
    have z5 : bg (vtB kd n (wN w n 1).toNat (wN w n 2).toNat (some d)) 5 = 1 := u5
    have z6 : bg (voD (vtB kd n (wN w n 1).toNat (wN w n 2).toNat (some d))) k = bg d k := by rw [z]
    unfold voD at z6
    rw [mkB_in hk', if_pos z5] at z6
    rw [← z6]
    rfl
end
end
