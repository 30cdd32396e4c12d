section
/-! THE ANSWER TO A NODE THAT IS BEHIND: a decision -/
section
variable {F N g H T n : Nat} {s s0 S : cS} {ct : Nat → List Nat} {hd : List Nat} {w w' V X : Wd} {pe pe' : Nat → Int} {a b e i : Nat} {G : Gh}
theorem bg_4 {y : List Nat} {i : Nat} : bg (4 :: y) i = if i = 0 then 4 else bg y (i - 1) := bg_cons 4 y i
/-- an answer that was made comes to its place -/
theorem CR.ans {ct' : Nat → List Nat} {h : Nat} {y : List Nat} (c : CR F g H T s ct' (a :: hd) w pe) (hn : n < H) (hx : cP s (nd g n + 13) (h % 4) = none) (h1 : 1 ≤ h) (h2 : (h : Int) < wN w n 1) (h3 : wN w n 1 ≤ h + 4) (ey : wY w n 7 h = some y) (ea : ct' a = 4 :: y) : CR F g H T (csP s (nd g n + 13) (h % 4) (some a)) ct' hd w pe := by
  obtain ⟨z, cz, oz⟩ := c.z_ hn
  have b3 := cz.bb.pt (e := 5) (i := h % 4) hn (by decide) (show h % 4 < 4 by omega) hx (fun q => absurd q (by decide)) (fun q => absurd q (by decide))
  have b3 : CRb F g H T (csP s (nd g n + 13) (h % 4) (some a)) ct' hd w pe n := b3
  obtain ⟨-, -, -, -, -, -, c7, c8, c9, c10, c11, c12, -⟩ := id cz.nz
  have nz : CNz g H T (csP s (nd g n + 13) (h % 4) (some a)) ct' n (wN w n) (wY w n) (wP w n) (wX w n) (pe n) z := CNz.P (e := 5) (i := h % 4) (xo := some a) (by decide) cz.nz (c7.oth (by decide) (by decide)) (c8.oth (by decide) (by decide)) (c9.oth (by decide) (by decide)) (fun j a' hj ha => by
    have ha : cP (csP s (nd g n + 13) (h % 4) (some a)) (nd g n + 13) j = some a' := ha
    rw [cP_at] at ha
    by_cases q : j = h % 4
    · rw [if_pos q] at ha
      have e : a = a' := Option.some.inj ha
      exact ⟨h, y, q.symm, h1, h2, h3, ey, by rw [← e]; exact ea⟩
    · rw [if_neg q] at ha
      exact c12 j a' hj ha) rfl rfl rfl rfl
  exact (b3.zz nz).cr oz (fun _ _ => ⟨rfl, rfl, rfl, rfl⟩) rfl rfl rfl (fun _ _ => rfl) rfl rfl rfl rfl rfl
/-- what is known of an answer -/
def anP (F g H T : Nat) (ct : Nat → List Nat) (hd : List Nat) (w : Wd) (pe : Nat → Int) (n h : Nat) (z : Option Nat × cS) : Prop := (z.1 = none ∧ CR F g H T z.2 ct hd w pe ∧ anB w n h = snM w n) ∨ ∃ a ct', z.1 = some a ∧ (∀ b, b ∈ hd → ct' b = ct b) ∧ CR F g H T z.2 ct' hd w pe ∧ 1 ≤ us g H T z.2 hd a ∧ ct' a = anB w n h
theorem decided_67 {h : Nat} {y : List Nat} (c0 : CR F g H T S ct hd w pe) (hn : n < H) (hl : hd.length ≤ 30) (hx : cP S (nd g n + 13) (h % 4) = none) (h1 : 1 ≤ h) (h40 : h ≤ 40) (h2 : (h : Int) < wN w n 1) (h3 : wN w n 1 ≤ h + 4) (ey : wY w n 7 h = some y) (ok : bOK y) (hf : ∀ i, i < y.length → cA S (g + 28) i = sb (bg y i)) : wp (KO_X6_decided_47 N g H T (some (nd g n)) (nI h) (nI y.length) S) (KF_X6_decided_47 N g H T (some (nd g n)) (nI h) (nI y.length) S) (anP F g H T ct hd w pe n h) := by
  obtain ⟨b1, b2, b3⟩ := ok
  have h0 : (0 : Int32) = nI 0 := rfl
  unfold KO_X6_decided_47 KF_X6_decided_47
  rw [n_add]
  refine wp_pos (by rw [h0, n_le' (by omega) (by omega)]; omega) (wp_and someN (wp_call (fresh_C (N := N) (len := 1 + y.length) c0 hl (by omega) (by omega)) (fun fr => ?_)))
  obtain ⟨a, y0, z1, yl, c, ca, ua, i4, i5, f1, f2, -⟩ := fr
  generalize k_X9_fresh N g H T S (g + 11) (nI (1 + y.length)) = z at z1 c ca i4 i5 f1 f2 ⊢
  obtain ⟨z1', s1⟩ := z
  have z1 : z1' = some a := z1
  subst z1
  have c : CR F g H T s1 (fun b => if b = a then y0 else ct b) (a :: hd) w pe := c
  have ca : cnA g H T s1 a = 0 := ca
  have i4 : cI s1 4 a = nI 0 := i4
  have i5 : cI s1 5 a = nI 0 := i5
  have f1 : ffr g H hd S s1 := f1
  have f2 : mfr g H S s1 := f2
  have ms := c.ms (a := a) us_self
  rw [show (if a = a then y0 else ct a) = y0 from if_pos rfl] at ms
  have aH := c.2.2.2.1.n ms.1
  have lc := ms.2.2.1.1
  have lc2 := ms.2.2.1.2.1
  have nH : nd g n + 24 ≤ nd g H := by unfold nd; omega
  have gH : g + 31 ≤ nd g H := by unfold nd; omega
  show wp (KO_X6_decided_67 N g H T (some (nd g n)) (nI h) (nI y.length) (some a) s1) (KF_X6_decided_67 N g H T (some (nd g n)) (nI h) (nI y.length) (some a) s1) _
  unfold KO_X6_decided_67 KF_X6_decided_67
  have e0 : (nI 0).toNatClampNeg = 0 := rfl
  have e1 : (nI 1).toNatClampNeg = 1 := rfl
  have s4 : (nI 4).toInt8.toInt32 = sb 4 := rfl
  have st1 : St 0 g H T (csA s1 (a + 2) 0 ((nI 4).toInt8.toInt32)) := c.2.1.Ab _ _ _
  have k28 : cK s1 (g + 28) = 20 := (c.2.1.rk (c := 8) (k := 10) isO8 rfl (by omega)) _ rfl
  have st2 := st1.Ac (a + 2) (g + 28) 0 1 y.length (tK_some k28)
  rw [e0, e1, n_clamp (by omega), zsome]
  rw [s4] at st2 ⊢
  have rA : ∀ v, cA (csA s1 (a + 2) 0 v) (g + 28) = cA S (g + 28) := fun v => by
    rw [cA_ne _ _ _ (by omega)]
    exact (f2.2.2.2.2.1 (g + 28) (by omega)).1
  have hL1 : ∀ v, cL (csA s1 (a + 2) 0 v) (a + 2) = cL s1 (a + 2) := fun _ => rfl
  rw [hL1]
  have row : ∀ i, i < (4 :: y).length → cA (csArow (csA s1 (a + 2) 0 (sb 4)) (a + 2) (va_cpy (cA (csA s1 (a + 2) 0 (sb 4)) (g + 28)) (cA (csA s1 (a + 2) 0 (sb 4)) (a + 2)) 0 1 y.length)) (a + 2) i = sb (bg (4 :: y) i) := fun i hi => by
    rw [cA_same, rA, bg_4]
    unfold va_cpy
    have hi : i < y.length + 1 := hi
    by_cases q : i = 0
    · rw [if_neg (by omega), if_pos q, q, cA_at, if_pos rfl]
    · rw [if_pos (by omega), if_neg q, show 0 + (i - 1) = i - 1 by omega]
      exact hf (i - 1) (by omega)
  have hw : mw a s1 (csArow (csA s1 (a + 2) 0 (sb 4)) (a + 2) (va_cpy (cA (csA s1 (a + 2) 0 (sb 4)) (g + 28)) (cA (csA s1 (a + 2) 0 (sb 4)) (a + 2)) 0 1 y.length)) := mw_a.trans mw_A
  have j4 : cI (csArow (csA s1 (a + 2) 0 (sb 4)) (a + 2) (va_cpy (cA (csA s1 (a + 2) 0 (sb 4)) (g + 28)) (cA (csA s1 (a + 2) 0 (sb 4)) (a + 2)) 0 1 y.length)) 4 a = nI 0 := i4
  have j5 : cI (csArow (csA s1 (a + 2) 0 (sb 4)) (a + 2) (va_cpy (cA (csA s1 (a + 2) 0 (sb 4)) (g + 28)) (cA (csA s1 (a + 2) 0 (sb 4)) (a + 2)) 0 1 y.length)) 5 a = nI 0 := i5
  refine wp_and someN (wp_and ((n_in (by omega)).2 (by omega)) (wp_and someN (wp_and ⟨⟨n_lt0 (by omega), n_lt0 (by omega), n_lt0 (by omega)⟩, by omega, by omega⟩ ?_)))
  generalize csArow (csA s1 (a + 2) 0 (sb 4)) (a + 2) (va_cpy (cA (csA s1 (a + 2) 0 (sb 4)) (g + 28)) (cA (csA s1 (a + 2) 0 (sb 4)) (a + 2)) 0 1 y.length) = s2 at st2 row hw j4 j5 ⊢
  obtain ⟨a', ct', q0, q1, q2, q3, q4, q5, q6⟩ := mk_row (m := 4 :: y) c ca ua f1 hw st2 (by show y.length + 1 = _; omega) (isB_cons (by decide) b3) row (Or.inl ⟨j4, j5⟩)
  have q0 : some a = some a' := q0
  cases q0
  unfold KO_X6_decided_92 KF_X6_decided_92 KO_X6_decided_101 KF_X6_decided_101
  rw [n_a3 h (by omega), n_clamp (by omega), zsome, cP_at, if_pos rfl]
  have hx2 : cP s2 (nd g n + 13) (h % 4) = none := by
    rw [show cP s2 (nd g n + 13) = cP S (nd g n + 13) from q6.2.2.1 n 5 hn (by decide)]
    exact hx
  have cf := CR.ans q3 hn hx2 h1 h2 h3 ey q1
  refine wp_and someN (wp_and ((n_in (by omega)).2 (by omega)) (wp_and someN (wp_and ((n_in (by omega)).2 (by omega)) (wp_fin trivial (Or.inr ⟨a, ct', rfl, fun b hb => q2 b (fun q => ?_), cf, ?_, ?_⟩)))))
  · have := us_in (g := g) (H := H) (T := T) (s := S) hb
    rw [q] at this
    omega
  · refine us_pl (e0 := 5) (i0 := h % 4) hn (by decide) (show h % 4 < 4 by omega) _ ?_
    show cP (csP s2 (nd g n + 13) (h % 4) (some a)) (nd g n + 13) (h % 4) = some a
    rw [cP_at, if_pos rfl]
  · rw [q1]
    unfold anB
    rw [if_pos (show wN w n 1 - 4 ≤ (h : Int) by omega), ey]
theorem decided_C {h : Nat} (c0 : CR F g H T s ct hd w pe) (hn : n < H) (hl : hd.length ≤ 30) (h1 : 1 ≤ h) (h2 : (h : Int) < wN w n 1) (h41 : wN w n 1 ≤ 41) : wp (p_X6_decided N g H T s (nd g n) (nI h)) (k_X6_decided N g H T s (nd g n) (nI h)) (anP F g H T ct hd w pe n h) := by
  show wp (KO_X6_decided_0 N g H T (some (nd g n)) (nI h) s) (KF_X6_decided_0 N g H T (some (nd g n)) (nI h) s) _
  unfold KO_X6_decided_0 KF_X6_decided_0 KO_X6_decided_18 KF_X6_decided_18
  obtain ⟨v, ev⟩ : ∃ v : Nat, wN w n 1 = v := ⟨(wN w n 1).toNat, by omega⟩
  have e9 : cI s 9 (nd g n) = nI v := by
    rw [(c0.node hn).1.2.2.1, ev, iI_n]
  rw [zsome, e9]
  refine wp_and someN ?_
  by_cases lo : h + 4 < v
  · rw [n_sub (by omega)]
    refine wp_pos (by rw [n_lt' (by omega) (by omega)]; omega) (wp_fin trivial (Or.inl ⟨rfl, c0, ?_⟩))
    unfold anB
    rw [if_neg (by omega)]
  have nlo : ¬ nI h < nI v - nI 4 := by
    by_cases c : 4 ≤ v
    · rw [n_sub c, n_lt' (by omega) (by omega)]
      omega
    · rw [show nI v - nI 4 = iI ((v : Int) - 4) from by rw [← iI_n, ← iI_n 4, iI_sub]; rfl, ← iI_n, iI_lt (by omega) (by omega) (by omega) (by omega)]
      omega
  refine wp_neg nlo (wp_pos (by rw [n_lt' (by omega) (by omega)]; omega) ?_)
  rw [n_a3 h (by omega), n_clamp (by omega)]
  refine wp_and ((n_in (by omega)).2 (by omega)) ?_
  cases e : cP s (nd g n + 13) (h % 4) with
  | some a =>
    refine wp_neg someN ?_
    unfold KO_X6_decided_101 KF_X6_decided_101
    rw [n_a3 h (by omega), n_clamp (by omega), zsome, e]
    obtain ⟨h', x, r1, r2, r3, r4, r5, r6⟩ := (c0.node hn).2.2.2.2.2.2.2.2.2.2.2.1 (h % 4) a (by omega) e
    have eh : h' = h := by omega
    refine wp_and someN (wp_and ((n_in (by omega)).2 (by omega)) (wp_fin trivial (Or.inr ⟨a, ct, rfl, fun _ _ => rfl, c0, us_pl (e0 := 5) (i0 := h % 4) hn (by decide) (show h % 4 < 4 by omega) s e, ?_⟩)))
    rw [r6]
    rw [eh] at r5
    unfold anB
    rw [if_pos (show wN w n 1 - 4 ≤ (h : Int) by omega), r5]
  | none =>
    have fc := fetch_c (N := N) c0 hn h1 (by omega)
    have k28 : cK s (g + 28) = 20 := (c0.2.1.rk (c := 8) (k := 10) isO8 rfl (by omega)) _ rfl
    have st := (kpc_X4_fetch c0.2.1 (o52 (isO5 hn)) (tK_some k28) fc.1).1
    refine wp_pos rfl (wp_call fc (fun q => ?_))
    generalize k_X4_fetch N g H T s (nd g n + 1) (nI h) (some (g + 28)) (nI 0) = Z at q st ⊢
    rcases q with ⟨q1, rfl⟩ | ⟨y, f, q1, q2, rfl, q4⟩
    · unfold KO_X6_decided_47 KF_X6_decided_47
      refine wp_neg (show ¬ (0 : Int32) ≤ -1 by decide) (wp_fin trivial (Or.inl ⟨rfl, c0, ?_⟩))
      unfold anB
      rw [q1, ite_self]
    · have c1 : CR F g H T (csArow s (g + 28) f) ct hd w pe := c0.sc (cfr_A s (g + 28) f) (fun a ha => by unfold scP; omega) st
      exact decided_67 c1 hn hl e h1 (by omega) h2 (by omega) q1 q2 (fun i hi => by rw [cA_same]; exact q4 i hi)
end
end
