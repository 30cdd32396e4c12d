section
/-! THE CLASS'S NODE TAKES A SNAPSHOT -/
section
variable {F N g H T n : Nat} {s s' : cS} {ct : Nat → List Nat} {hd : List Nat} {w w' W : Wd} {pe pe' : Nat → Int} {v v' v0 : Nat → Int} {y y' z z' : Nat → Nat → Option (List Nat)} {p : List (List Nat)} {x : Nat → Nat → Nat} {pn : Int} {a : Nat}
theorem n_a3 : ∀ k, k < 64 → nI k &&& nI 3 = nI (k % 4) := by decide
/-- answers are let go -/
theorem forget_1 {j : Nat} (h : CRz F g H T s ct hd w pe n v y p x pn z) (hn : n < H) (hl : hd.length ≤ 30) (hj : j < 4) : p_X9_drop N g H T s (g + 11) (cP s (nd g n + 13) j) ∧ CRz F g H T (csP (k_X9_drop N g H T s (g + 11) (cP s (nd g n + 13) j)) (nd g n + 13) j none) ct hd w pe n v y p x pn z ∧ ∀ i, cP (csP (k_X9_drop N g H T s (g + 11) (cP s (nd g n + 13) j)) (nd g n + 13) j none) (nd g n + 13) i = (if i = j then none else cP s (nd g n + 13) i) ∧ ∀ b, b ≠ nd g n + 13 → cP (csP (k_X9_drop N g H T s (g + 11) (cP s (nd g n + 13) j)) (nd g n + 13) j none) b = cP s b := by
  obtain ⟨d1, d2, d3, d4, d5⟩ := h.bb.lt_ (N := N) (e := 5) (i := j) hn (by omega) (by decide) hj
  have d1 : p_X9_drop N g H T s (g + 11) (cP s (nd g n + 13) j) := d1
  have d2 : CRb F g H T (csP (k_X9_drop N g H T s (g + 11) (cP s (nd g n + 13) j)) (nd g n + 13) j none) ct hd w pe n := d2
  have d3 : mfr g H s (k_X9_drop N g H T s (g + 11) (cP s (nd g n + 13) j)) := d3
  have d4 : cP (k_X9_drop N g H T s (g + 11) (cP s (nd g n + 13) j)) = cP s := d4
  refine ⟨d1, ?_⟩
  generalize k_X9_drop N g H T s (g + 11) (cP s (nd g n + 13) j) = D at d2 d3 d4 ⊢
  have b : ∀ i, cP (csP D (nd g n + 13) j none) (nd g n + 13) i = (if i = j then none else cP s (nd g n + 13) i) ∧ ∀ b, b ≠ nd g n + 13 → cP (csP D (nd g n + 13) j none) b = cP s b := fun i => ⟨by rw [cP_at, d4], fun b hb => by rw [cP_other _ _ _ hb, d4]⟩
  refine ⟨d2.zz ?_, b⟩
  have c := h.nz.fx (d3.nfx hn)
  obtain ⟨-, -, -, -, -, -, c7, c8, c9, c10, c11, c12, -⟩ := id c
  refine CNz.P (e := 5) (by decide) c (c7.oth (by decide) (by decide)) (c8.oth (by decide) (by decide)) (c9.oth (by decide) (by decide)) (fun i a hi ha => ?_) rfl rfl rfl rfl
  have ha : cP (csP D (nd g n + 13) j none) (nd g n + 13) i = some a := ha
  rw [cP_at] at ha
  split at ha
  · cases ha
  · exact c12 i a hi ha
theorem forget_Z {f t : Nat} (hN : 100 ≤ N) (h : CRz F g H T s ct hd w pe n v y p x pn z) (hn : n < H) (hl : hd.length ≤ 30) (hf : f ≤ t) (ht : t ≤ f + 4) (h9 : t ≤ 45) : wp (p_X6_forgetAnswers N g H T s (nd g n) (nI f) (nI t)) (k_X6_forgetAnswers N g H T s (nd g n) (nI f) (nI t)) (fun s' => CRz F g H T s' ct hd w pe n v y p x pn z ∧ (∀ j, j < 4 → (∃ q, f ≤ q ∧ q < t ∧ q % 4 = j) → cP s' (nd g n + 13) j = none) ∧ ∀ b, b ≠ nd g n + 13 → cP s' b = cP s b) := by
  show wp (KO_X6_forgetAnswers_0 N g H T (some (nd g n)) (nI f) (nI t) s) (KF_X6_forgetAnswers_0 N g H T (some (nd g n)) (nI f) (nI t) s) _
  unfold KO_X6_forgetAnswers_0 KF_X6_forgetAnswers_0
  refine wp_seq (Q := fun Z => CRz F g H T Z.2 ct hd w pe n v y p x pn z ∧ (∀ j, j < 4 → (∃ q, f ≤ q ∧ q < t ∧ q % 4 = j) → cP Z.2 (nd g n + 13) j = none) ∧ ∀ b, b ≠ nd g n + 13 → cP Z.2 b = cP s b) ?_ (fun Z hZ => ?_)
  rotate_left
  · unfold KOA_X6_forgetAnswers_2 KA_X6_forgetAnswers_2 KO_X6_forgetAnswers_47 KF_X6_forgetAnswers_47
    exact wp_fin trivial hZ
  have key := wp_loop (K := t - f) (P := fun Z : Nat × cS => CRz F g H T Z.2 ct hd w pe n v y p x pn z ∧ (∀ j, j < 4 → (∃ q, f ≤ q ∧ q < t ∧ q % 4 = j) → cP Z.2 (nd g n + 13) j = none) ∧ ∀ b, b ≠ nd g n + 13 → cP Z.2 b = cP s b) (fun i (S : cS) => CRz F g H T S ct hd w pe n v y p x pn z ∧ (∀ j, j < 4 → (∃ q, f ≤ q ∧ q < f + i ∧ q % 4 = j) → cP S (nd g n + 13) j = none) ∧ ∀ b, b ≠ nd g n + 13 → cP S b = cP s b) (fun r i S => KOL_X6_forgetAnswers_2 N g H T r (some (nd g n)) (nI f) (nI t) (nI (f + i)) S) (fun r i S => KL_X6_forgetAnswers_2 N g H T r (some (nd g n)) (nI f) (nI t) (nI (f + i)) S) (fun r i S hi hI ih => ?_) 0 N s (by omega) (by omega) ⟨h, fun j _ ⟨q, q1, q2, _⟩ => absurd q2 (by omega), fun _ _ => rfl⟩
  · exact key
  unfold KOL_X6_forgetAnswers_2 KL_X6_forgetAnswers_2 KOB_X6_forgetAnswers_2 KB_X6_forgetAnswers_2
  by_cases e : i = t - f
  · refine wp_pos (by rw [n_le' (by omega) (by omega)]; omega) (wp_fin trivial ⟨hI.1, fun j hj ⟨q, q1, q2, q3⟩ => hI.2.1 j hj ⟨q, q1, by omega, q3⟩, hI.2.2⟩)
  rw [n_add, n_a3 (f + i) (by omega), n_clamp (by omega), zsome]
  obtain ⟨d1, d2, d3⟩ := forget_1 (N := N) (j := (f + i) % 4) hI.1 hn hl (by omega)
  refine wp_neg (by rw [n_le' (by omega) (by omega)]; omega) (wp_neg (by rw [n_le' (by omega) (by omega)]; omega) (wp_and someN (wp_and ((n_in (by omega)).2 (by omega)) (wp_and d1 ?_))))
  unfold KO_X6_forgetAnswers_32 KF_X6_forgetAnswers_32
  rw [n_a3 (f + i) (by omega), n_clamp (by omega), zsome, n_add]
  refine wp_and someN (wp_and ((n_in (by omega)).2 (by omega)) (ih _ ⟨d2, fun j hj ⟨q, q1, q2, q3⟩ => ?_, fun b hb => ((d3 0).2 b hb).trans (hI.2.2 b hb)⟩ (by omega)))
  rw [(d3 j).1]
  by_cases c : j = (f + i) % 4
  · rw [if_pos c]
  · rw [if_neg c]
    refine hI.2.1 j hj ⟨q, q1, ?_, q3⟩
    by_cases c2 : q = f + i
    · rw [c2] at q3
      omega
    · omega
theorem va_cpy3 (x y : Nat → Int32) (a n i : Nat) (h : i < n) : va_cpy x y a 0 n i = x (a + i) := by
  unfold va_cpy
  rw [if_pos ⟨Nat.zero_le _, by omega⟩]
  simp
/-- no other node's book becomes stale -/
def m6 (g H n : Nat) (s s' : cS) : Prop := ∀ m, m < H → m ≠ n → cI s' 5 (nd g m + 6) = cI s 5 (nd g m + 6)
theorem m6.refl : m6 g H n s s := fun _ _ _ => rfl
theorem m6.trans {s1 s2 : cS} (h : m6 g H n s s1) (h' : m6 g H n s1 s2) : m6 g H n s s2 := fun m hm c => (h' m hm c).trans (h m hm c)
theorem M5.six (h : M5 g H s s') : m6 g H n s s' := fun m hm _ => h.2 m hm
theorem cfr.six {P : Nat → Prop} (h : cfr P s s') (hP : ∀ m, m < H → m ≠ n → ¬ P (nd g m + 6)) : m6 g H n s s' := fun m hm c => h.I 5 _ (hP m hm c)
/-- where a rise stands before its first round has begun -/
def riC (F g H T : Nat) (ct : Nat → List Nat) (hd : List Nat) (pe : Nat → Int) (n x2 : Nat) (W : Wd) (s : cS) : Prop := CR F g H T s ct hd W (fun m => if m = n then (if 40 < x2 then -1 else 0) else pe m)
theorem CRz.b45 (h : CRz F g H T s ct hd w pe n v y p x pn z) (hn : n < H) : (∀ i m, i < 32 → z 4 i = some m → isB m) ∧ ∀ c q r j m, c ≤ 1 → q ≤ 1 → r < 16 → j < T → z 5 (vq c q r j) = some m → isB m := ⟨fun i m hi e => h.b4 hn hi e, fun c q r j m h1 h2 h3 h4 e => h.b5 hn h1 h2 h3 h4 e⟩
theorem takeSnap_C {m : List Nat} {j0 : Nat} (hN : 200 ≤ N) (h : CR F g H T s ct hd w pe) (hn : n < H) (hl : hd.length ≤ 25) (u : uO T w n) (h40 : wN w n 1 ≤ 40) (h16 : -1 ≤ wN w n 16 ∧ wN w n 16 ≤ 300) (hp : pe n = -1) (hj0 : j0 < T) (hpl : cP s (nd g n + 22) j0 = some a) (hca : ct a = m) (hm : snOK m) (hx : wN w n 1 < tw m 1) : wp (p_X7_take N g H T s (some (nd g n)) (some a)) (k_X7_take N g H T s (some (nd g n)) (some a)) (fun s' => (((aSnapN w n m).1 = true ∧ riC F g H T ct hd pe n (tw m 1) (aLift (aSnapN w n m).2 n (tw m 1) (sl m 3 32) (snB m)) s') ∨ ((aSnapN w n m).1 = false ∧ CR F g H T s' ct hd (aSnapN w n m).2 pe)) ∧ m6 g H n s s') := by
  obtain ⟨u0, u1, u2, u15, u12, u17, ow⟩ := id u
  have uS : ∀ S : cS, cP S (nd g n + 22) j0 = some a → 1 ≤ us g H T S hd a := fun S e => by
    have := cnA_hr (g := g) (H := H) (T := T) (s := S) (e := 3) hn (by decide) hj0 e
    unfold us
    omega
  have ua := uS s hpl
  show wp (KO_X7_take_0 N g H T (some (nd g n)) (some a) s) (KF_X7_take_0 N g H T (some (nd g n)) (some a) s) _
  unfold KO_X7_take_0 KF_X7_take_0
  rw [zsome]
  have nc := noteSnap_C (N := N) (by omega) h hn u12 h16 ua hca hm.1
  have x1 := (k5c_X4_noteSnap h.2.1 (o52 (isO5 hn)) (tK_some (h.ms ua).1) nc.1).2
  refine wp_and someN (wp_call nc ?_)
  rintro ⟨jt, jf⟩
  generalize k_X4_noteSnap N g H T s (nd g n + 1) (some a) = Z at jt jf x1 ⊢
  obtain ⟨Z1, s1⟩ := Z
  have jf : ffr g H hd s s1 := jf
  have x1 : m6 g H n s s1 := M5.six x1
  have c3 : (nI 3).toNatClampNeg = 3 := rfl
  have c0 : (nI 0).toNatClampNeg = 0 := rfl
  have c32 : (nI 32).toNatClampNeg = 32 := rfl
  show wp (KO_X7_take_8 N g H T (some (nd g n)) (some a) Z1 s1) (KF_X7_take_8 N g H T (some (nd g n)) (some a) Z1 s1) _
  unfold KO_X7_take_8 KF_X7_take_8
  rw [zsome, zsome, c3, c0, c32]
  rcases jt with ⟨j1, j2, j3⟩ | ⟨j1, j2, j3, j4⟩
  rotate_left
  · have j2 : Z1 = nI 0 := j2
    rw [j2, j4]
    have fl := nfall_C (N := N) (by omega) j3 hn (by omega) u hp
    exact wp_pos (show nI 0 = 0 from rfl) (wp_fin ⟨⟨someN, fl.1⟩, trivial⟩ ⟨Or.inr ⟨j1, fl.2⟩, x1.trans (k5c_X6_fall j3.2.1 (isO5 hn) fl.1).2.six⟩)
  have j2 : Z1 = nI 1 := j2
  have j3 : CR F g H T s1 ct hd (aSnapN w n m).2 pe := j3
  obtain ⟨t1, t2, t3, t4⟩ := aSnapN_t j1
  have pl1 : cP s1 (nd g n + 22) j0 = some a := by
    rw [show cP s1 (nd g n + 22) = cP s (nd g n + 22) from jf.2.2.1 n 3 hn (by decide)]
    exact hpl
  have ua1 := uS s1 pl1
  have ms := j3.ms ua1
  rw [hca] at ms
  have st := j3.2.1
  have aH := j3.2.2.2.1.n ms.1
  have nH : nd g n + 24 ≤ nd g H := by unfold nd; omega
  have L128 : cL s1 (a + 2) = 128 := by rw [ms.2.2.2.2.1, hm.1]; rfl
  have k20 : tK s1 20 (some (a + 2)) := tK_some (st.2.2.1 a ms.1).2.2.2.1
  have st2 := st.Ac (nd g n + 11) (a + 2) 3 0 32 k20
  rw [j2]
  refine wp_neg (show ¬ nI 1 = 0 by decide) (wp_and someN (wp_and someN (wp_and ⟨⟨n_lt0 (by omega), n_lt0 (by omega), n_lt0 (by omega)⟩, by rw [L128]; omega, by omega⟩ ?_)))
  have f2 : cfr (fun b => b = nd g n + 11) s1 (csArow s1 (nd g n + 11) (va_cpy (cA s1 (a + 2)) (cA s1 (nd g n + 11)) 3 0 32)) := cfr_A _ _ _
  have r2 : ∀ i, i < 32 → cA (csArow s1 (nd g n + 11) (va_cpy (cA s1 (a + 2)) (cA s1 (nd g n + 11)) 3 0 32)) (nd g n + 11) i = sb (bg (sl m 3 32) i) := fun i hi => by
    rw [cA_same, va_cpy3 _ _ _ _ _ hi, ms.2.2.1.2.2.1 (3 + i) (by rw [hm.1]; omega), sl_in hi]
  generalize csArow s1 (nd g n + 11) (va_cpy (cA s1 (a + 2)) (cA s1 (nd g n + 11)) 3 0 32) = s2 at st2 f2 r2 ⊢
  have na : a + 2 ≠ nd g n + 11 := by omega
  have cm2 : cB s2 (a + 2) m := ⟨by rw [f2.L]; exact ms.2.2.1.1, by rw [f2.L]; exact ms.2.2.1.2.1, by rw [f2.A _ na]; exact ms.2.2.1.2.2.1, ms.2.2.1.2.2.2⟩
  have ld := load_c (N := N) (g := g) (H := H) (T := T) (o := nd g n + 6) (by omega) cm2 hm.1 (by rw [f2.L]; exact L128) ⟨by omega, by omega, by omega⟩
  have st3 := (kpc_X0_load st2 (o54 (isO5 hn)) (tK_some (by rw [f2.1]; exact k20 _ rfl)) ld.1).1
  unfold KO_X7_take_31 KF_X7_take_31
  rw [zsome, zsome]
  refine wp_and someN (wp_and someN (wp_call ld (fun q => ?_)))
  obtain ⟨f3, s5, b3⟩ := q
  generalize k_X0_load N g H T s2 (nd g n + 6) (some (a + 2)) = s3 at st3 f3 s5 b3 ⊢
  have f13 : cfr (fun b => b = nd g n + 6 ∨ b = nd g n + 6 + 1 ∨ b = nd g n + 6 + 2 ∨ b = nd g n + 11) s1 s3 := (f2.mono (fun b hb => Or.inr (Or.inr (Or.inr hb)))).trans (f3.mono (fun b hb => by omega))
  have x3 : m6 g H n s1 s3 := f13.six (fun m _ c => by unfold nd; omega)
  obtain ⟨z, cz, oz⟩ := j3.z_ hn
  have a3 := cz.bd (k := snB m) (d := sl m 3 32) hn f13 st3 s5 b3 (by show (0 : Int) ≤ ((tw m (35 + 5 * 0) : Nat) : Int); omega) (sl_len _ _ _) (isB_mk fun i _ => ms.2.2.1.2.2.2 _) (fun i hi => by rw [f3.A _ (by omega)]; exact r2 i hi)
  have W0 : wN (aSnapN w n m).2 n 0 = 1 := by rw [t1 n 0 (by omega) (by omega)]; exact u0
  have W1 : wN (aSnapN w n m).2 n 1 = ((wN w n 1).toNat : Int) := by rw [t1 n 1 (by omega) (by omega)]; omega
  have oz0 := oz.1 W0
  unfold KO_X7_take_42 KF_X7_take_42
  rw [zsome]
  have fg := forget_Z (N := N) (f := 0) (t := 4) (by omega) a3 hn (by omega) (by omega) (by omega) (by omega)
  have x4 := (k5c_X6_forgetAnswers a3.2.1 (isO5 hn) fg.1).2
  have m5 := x4.2 n hn
  refine wp_call (o := _ ∧ _) ⟨⟨someN, fg.1⟩, fg.2⟩ (fun q => ?_)
  obtain ⟨a4, no, pl4⟩ := q
  generalize k_X6_forgetAnswers N g H T s3 (nd g n) (nI 0) (nI 4) = s4 at a4 no pl4 m5 x4 ⊢
  unfold KO_X7_take_48 KF_X7_take_48
  rw [zsome, zsome]
  have ua4 := uS s4 (by rw [pl4 _ (by omega), f13.2.2.2.2.2.1]; exact pl1)
  have ms4 := a4.ms ua4
  rw [hca] at ms4
  obtain ⟨w1, w2⟩ := two_ok (N := N) (g := g) (H := H) (T := T) (i := 1) ms4 (by omega)
  have w3 : twM m 1 = tw m 1 := by
    unfold twM
    rw [if_pos (by rw [hm.1]; omega)]
  rw [w3] at w2
  rw [w2]
  have b45 := a4.b45 hn
  have en := enter_C (N := N) (x2 := tw m 1) (h0 := (wN w n 1).toNat) (by omega) a4 hn (by omega) oz0 W0 W1 ⟨by omega, by omega⟩ ⟨by omega, hm.2.2.1⟩ (by rw [m5]; exact s5) (fun j b hj hb => by
    rw [no j hj ⟨j, by omega, by omega, by omega⟩] at hb
    cases hb) b45.1 b45.2
  exact wp_fin ⟨⟨someN, w1⟩, ⟨someN, en.1⟩, trivial⟩ ⟨Or.inl ⟨j1, en.2⟩, ((x1.trans x3).trans x4.six).trans (k5c_X6_enter a4.2.1 (isO5 hn) en.1).2.six⟩
end
end
