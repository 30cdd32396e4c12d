section
/-! THE CLASS'S LOG: notes are opened, filled, written -/
section
variable {F N g H T n : Nat} {s s' : cS} {ct : Nat → List Nat} {hd : List Nat} {w : Wd} {pe : Nat → Int} {t : List Nat}
theorem ntH_len {k h q : Nat} : (ntH k h q).length = 8 := rfl
theorem bg8 (a b c d : Nat) : bg [a, b, c, d, 0, 0, 0, 0] 0 = a ∧ bg [a, b, c, d, 0, 0, 0, 0] 1 = b ∧ bg [a, b, c, d, 0, 0, 0, 0] 2 = c ∧ bg [a, b, c, d, 0, 0, 0, 0] 3 = d ∧ ∀ i, 4 ≤ i → bg [a, b, c, d, 0, 0, 0, 0] i = 0 := ⟨rfl, rfl, rfl, rfl, fun i hi => by
  by_cases c' : i < 8
  · rcases (show i = 4 ∨ i = 5 ∨ i = 6 ∨ i = 7 by omega) with rfl | rfl | rfl | rfl <;> rfl
  · exact bg_out (by show 8 ≤ i; omega)⟩
theorem ntH_B {k h q : Nat} (hk : k < 256) (hh : h < 65536) (hq : q < 256) : isB (ntH k h q) := fun i => by
  unfold ntH
  obtain ⟨b0, b1, b2, b3, b4⟩ := bg8 k (h / 256) (h % 256) q
  by_cases c : 4 ≤ i
  · rw [b4 i c]
    decide
  · rcases (show i = 0 ∨ i = 1 ∨ i = 2 ∨ i = 3 by omega) with rfl | rfl | rfl | rfl
    · rw [b0]; exact hk
    · rw [b1]; omega
    · rw [b2]; omega
    · rw [b3]; exact hq
theorem open_C {k h q : Nat} (cr : CR F g H T s ct hd w pe) (hn : n < H) (hk : k < 256) (hh : h < 65536) (hq : q < 256) : wp (p_X4_open N g H T s (nd g n + 1) (nI k) (nI h) (nI q)) (k_X4_open N g H T s (nd g n + 1) (nI k) (nI h) (nI q)) (fun z => CR F g H T z ct hd w pe ∧ noC z (nd g n) (ntH k h q) ∧ ffr g H hd s z) := by
  have to := o52 (isO5 (g := g) hn)
  have e3 : nd g n + 1 + 3 = nd g n + 4 := rfl
  have L4 : cL s (nd g n + 4) = 1024 := cr.2.1.rl to (k := 2) rfl (by omega) (by omega)
  have z6 := (cr.node hn).2.2.2.2.2.2.2.2.2.2.2.2.2
  have hw : wp (p_X4_open N g H T s (nd g n + 1) (nI k) (nI h) (nI q)) (k_X4_open N g H T s (nd g n + 1) (nI k) (nI h) (nI q)) (fun z => z = csI (csA (csA (csA (csA s (nd g n + 4) 0 (sb k)) (nd g n + 4) 1 (sb (h / 256 % 256))) (nd g n + 4) (1 + 1) (sb (h % 256))) (nd g n + 4) 3 (sb q)) 4 (nd g n + 1) (nI 8)) := by
    show wp (KO_X4_open_0 N g H T (nd g n + 1) (nI k) (nI h) (nI q) s) (KF_X4_open_0 N g H T (nd g n + 1) (nI k) (nI h) (nI q) s) _
    unfold KO_X4_open_0 KF_X4_open_0 KO_X4_open_17 KF_X4_open_17
    rw [e3, sb2, sb2, show k % 256 = k by omega, show q % 256 = q by omega]
    have c0 : (nI 0).toNatClampNeg = 0 := rfl
    have c3 : (nI 3).toNatClampNeg = 3 := rfl
    rw [c0, c3]
    generalize sb k = bk
    generalize sb q = bq
    obtain ⟨p1, p2⟩ := putTwo_c (N := N) (g := g) (H := H) (T := T) (s := csA s (nd g n + 4) 0 bk) (r := nd g n + 4) (a := 1) (x := h) (by rw [cL_A]; omega) (by rw [cL_A]; omega) (by omega)
    refine wp_and ((n_in (by omega)).2 (by omega)) (wp_and p1 (wp_and ((n_in (by omega)).2 (by omega)) ?_))
    rw [p2]
    exact wp_fin trivial rfl
  have st := (kpc_X4_open cr.2.1 to hw.1).1
  refine wp_fin hw.1 ?_
  have e := hw.2
  rw [e] at st ⊢
  generalize hb0 : sb k = b0 at st ⊢
  generalize hb1 : sb (h / 256 % 256) = b1 at st ⊢
  generalize hb2 : sb (h % 256) = b2 at st ⊢
  generalize hb3 : sb q = b3 at st ⊢
  have row : ∀ i, cA (csI (csA (csA (csA (csA s (nd g n + 4) 0 b0) (nd g n + 4) 1 b1) (nd g n + 4) (1 + 1) b2) (nd g n + 4) 3 b3) 4 (nd g n + 1) (nI 8)) (nd g n + 4) i = if i = 3 then b3 else if i = 1 + 1 then b2 else if i = 1 then b1 else if i = 0 then b0 else cA s (nd g n + 4) i := fun i => by rw [cA_I, cA_at, cA_at, cA_at, cA_at]
  have f : cfr (fun x => x = nd g n + 1 ∨ x = nd g n + 4) s (csI (csA (csA (csA (csA s (nd g n + 4) 0 b0) (nd g n + 4) 1 b1) (nd g n + 4) (1 + 1) b2) (nd g n + 4) 3 b3) 4 (nd g n + 1) (nI 8)) := ((((cfr_A _ _ _).mono (fun x z => Or.inr z)).trans ((cfr_A _ _ _).mono (fun x z => Or.inr z))).trans (((cfr_A _ _ _).mono (fun x z => Or.inr z)).trans ((cfr_A _ _ _).mono (fun x z => Or.inr z)))).trans ((cfr_I _ _ _ _).mono (fun x z => Or.inl z))
  have iO : ∀ j x, j ≠ 4 ∨ x ≠ nd g n + 1 → cI (csI (csA (csA (csA (csA s (nd g n + 4) 0 b0) (nd g n + 4) 1 b1) (nd g n + 4) (1 + 1) b2) (nd g n + 4) 3 b3) 4 (nd g n + 1) (nI 8)) j x = cI s j x := fun j x hj => by
    rw [cI_other _ _ hj]
    rfl
  have i4 : cI (csI (csA (csA (csA (csA s (nd g n + 4) 0 b0) (nd g n + 4) 1 b1) (nd g n + 4) (1 + 1) b2) (nd g n + 4) 3 b3) 4 (nd g n + 1) (nI 8)) 4 (nd g n + 1) = nI 8 := cI_same _ _ _ _
  generalize csI (csA (csA (csA (csA s (nd g n + 4) 0 b0) (nd g n + 4) 1 b1) (nd g n + 4) (1 + 1) b2) (nd g n + 4) 3 b3) 4 (nd g n + 1) (nI 8) = s1 at st row f iO i4 ⊢
  refine ⟨cr.nt hn f (fun j hj => iO j _ (Or.inl hj)) ⟨by rw [row, if_neg (by decide), if_neg (by decide), if_neg (by decide), if_neg (by decide)]; exact z6.1, by rw [row, if_neg (by decide), if_neg (by decide), if_neg (by decide), if_neg (by decide)]; exact z6.2⟩ st, ⟨i4, Nat.le_refl _, (show (8 : Nat) ≤ 1000 by decide), ntH_B hk hh hq, fun i hi h4 h5 => ?_⟩, ⟨fun x hx => iO 4 x (Or.inr (by have := (cr.kd hx).2.1; unfold nd at *; omega)), f.pf⟩⟩
  have hi' : i < 8 := hi
  rw [row]
  unfold ntH
  obtain ⟨a0, a1, a2, a3, a4⟩ := bg8 k (h / 256) (h % 256) q
  rcases (show i = 0 ∨ i = 1 ∨ i = 2 ∨ i = 3 ∨ i = 6 ∨ i = 7 by omega) with rfl | rfl | rfl | rfl | rfl | rfl
  · rw [if_neg (by decide), if_neg (by decide), if_neg (by decide), if_pos rfl, a0, hb0]
  · rw [if_neg (by decide), if_neg (by decide), if_pos rfl, a1, ← hb1, show h / 256 % 256 = h / 256 by omega]
  · rw [if_neg (by decide), if_pos rfl, a2, hb2]
  · rw [if_pos rfl, a3, hb3]
  · rw [if_neg (by decide), if_neg (by decide), if_neg (by decide), if_neg (by decide), a4 6 (by decide)]
    exact z6.1
  · rw [if_neg (by decide), if_neg (by decide), if_neg (by decide), if_neg (by decide), a4 7 (by decide)]
    exact z6.2
theorem addL_C {r a b : Nat} {m : List Nat} (cr : CR F g H T s ct hd w pe) (hn : n < H) (hno : noC s (nd g n) t) (hm : cB s r m) (kr : cK s r = 20) (hr : r ≠ nd g n + 4) (hab : a ≤ b) (hb : b ≤ m.length) (hl : t.length + (b - a) ≤ 1000) : wp (p_X4_add N g H T s (nd g n + 1) (some r) (nI a) (nI b)) (k_X4_add N g H T s (nd g n + 1) (some r) (nI a) (nI b)) (fun z => CR F g H T z ct hd w pe ∧ noC z (nd g n) (t ++ sl m a (b - a)) ∧ ffr g H hd s z) := by
  obtain ⟨n1, n2, n3, n4, n5⟩ := hno
  have to := o52 (isO5 (g := g) hn)
  have e3 : nd g n + 1 + 3 = nd g n + 4 := rfl
  have m1 := hm.1
  have m2 := hm.2.1
  have z6 := (cr.node hn).2.2.2.2.2.2.2.2.2.2.2.2.2
  have hw : wp (p_X4_add N g H T s (nd g n + 1) (some r) (nI a) (nI b)) (k_X4_add N g H T s (nd g n + 1) (some r) (nI a) (nI b)) (fun z => z = csI (csArow s (nd g n + 4) (va_cpy (cA s r) (cA s (nd g n + 4)) a t.length (b - a))) 4 (nd g n + 1) (nI (t.length + (b - a)))) := by
    show wp (KO_X4_add_0 N g H T (nd g n + 1) (some r) (nI a) (nI b) s) (KF_X4_add_0 N g H T (nd g n + 1) (some r) (nI a) (nI b) s) _
    unfold KO_X4_add_0 KF_X4_add_0 KO_X4_add_47 KF_X4_add_47 KO_X4_add_59 KF_X4_add_59
    have i4 : ∀ ff, cI (csArow s (nd g n + 4) ff) 4 (nd g n + 1) = nI t.length := fun _ => n1
    rw [e3, zsome, i4, n1, n_add, n_sub (by omega), n_sub (by omega), n_add, n_clamp (by omega), n_clamp (by omega), n_clamp (by omega)]
    refine wp_neg (n_lt0 (by omega)) (wp_neg (by rw [n_lt' (by omega) (by omega)]; omega) (wp_and someN (wp_neg (by rw [n_lt' (by omega) (by omega)]; omega) (wp_neg (by rw [n_lt' (by omega) (by omega)]; omega) (wp_and ⟨someN, ⟨n_lt0 (by omega), n_lt0 (by omega), n_lt0 (by omega)⟩, (by omega), (by omega)⟩ (wp_fin trivial rfl))))))
  have st := (kpc_X4_add cr.2.1 to (tK_some kr) hw.1).1
  refine wp_fin hw.1 ?_
  have e := hw.2
  rw [e] at st ⊢
  have row : ∀ i, cA (csI (csArow s (nd g n + 4) (va_cpy (cA s r) (cA s (nd g n + 4)) a t.length (b - a))) 4 (nd g n + 1) (nI (t.length + (b - a)))) (nd g n + 4) i = if t.length ≤ i ∧ i < t.length + (b - a) then cA s r (a + (i - t.length)) else cA s (nd g n + 4) i := fun i => by
    rw [cA_I, cA_same]
    rfl
  have f : cfr (fun x => x = nd g n + 1 ∨ x = nd g n + 4) s (csI (csArow s (nd g n + 4) (va_cpy (cA s r) (cA s (nd g n + 4)) a t.length (b - a))) 4 (nd g n + 1) (nI (t.length + (b - a)))) := ((cfr_A _ _ _).mono (fun x z => Or.inr z)).trans ((cfr_I _ _ _ _).mono (fun x z => Or.inl z))
  have iO : ∀ j x, j ≠ 4 ∨ x ≠ nd g n + 1 → cI (csI (csArow s (nd g n + 4) (va_cpy (cA s r) (cA s (nd g n + 4)) a t.length (b - a))) 4 (nd g n + 1) (nI (t.length + (b - a)))) j x = cI s j x := fun j x hj => by
    rw [cI_other _ _ hj]
    rfl
  have i4 : cI (csI (csArow s (nd g n + 4) (va_cpy (cA s r) (cA s (nd g n + 4)) a t.length (b - a))) 4 (nd g n + 1) (nI (t.length + (b - a)))) 4 (nd g n + 1) = nI (t.length + (b - a)) := cI_same _ _ _ _
  generalize csI (csArow s (nd g n + 4) (va_cpy (cA s r) (cA s (nd g n + 4)) a t.length (b - a))) 4 (nd g n + 1) (nI (t.length + (b - a))) = s1 at st row f iO i4 ⊢
  have ll : (t ++ sl m a (b - a)).length = t.length + (b - a) := by rw [List.length_append, sl_len]
  refine ⟨cr.nt hn f (fun j hj => iO j _ (Or.inl hj)) ⟨by rw [row, if_neg (by omega)]; exact z6.1, by rw [row, if_neg (by omega)]; exact z6.2⟩ st, ⟨by rw [ll]; exact i4, by rw [ll]; omega, by rw [ll]; exact hl, isB_app n4 (isB_sl hm.2.2.2 _ _), fun i hi h4 h5 => ?_⟩, ⟨fun x hx => iO 4 x (Or.inr (by have := (cr.kd hx).2.1; unfold nd at *; omega)), f.pf⟩⟩
  rw [ll] at hi
  rw [row, bg_app]
  by_cases c : i < t.length
  · rw [if_neg (by omega), if_pos c]
    exact n5 i c h4 h5
  · rw [if_pos (by omega), if_neg c, sl_in (by omega)]
    exact hm.2.2.1 _ (by omega)
/-- a byte is added -/
theorem addB_C {x : Nat} (cr : CR F g H T s ct hd w pe) (hn : n < H) (hno : noC s (nd g n) t) (hx : x < 256) (hl : t.length + 1 ≤ 1000) : CR F g H T (csI (csA s (nd g n + 4) t.length (sb x)) 4 (nd g n + 1) (nI (t.length + 1))) ct hd w pe ∧ noC (csI (csA s (nd g n + 4) t.length (sb x)) 4 (nd g n + 1) (nI (t.length + 1))) (nd g n) (t ++ [x]) ∧ ffr g H hd s (csI (csA s (nd g n + 4) t.length (sb x)) 4 (nd g n + 1) (nI (t.length + 1))) := by
  obtain ⟨n1, n2, n3, n4, n5⟩ := hno
  have z6 := (cr.node hn).2.2.2.2.2.2.2.2.2.2.2.2.2
  have st : St 0 g H T (csI (csA s (nd g n + 4) t.length (sb x)) 4 (nd g n + 1) (nI (t.length + 1))) := (cr.2.1.Ab (nd g n + 4) t.length (nI x)).I _ _ _
  generalize hb : sb x = b0 at st ⊢
  have row : ∀ i, cA (csI (csA s (nd g n + 4) t.length b0) 4 (nd g n + 1) (nI (t.length + 1))) (nd g n + 4) i = if i = t.length then b0 else cA s (nd g n + 4) i := fun i => by rw [cA_I, cA_at]
  have f : cfr (fun x => x = nd g n + 1 ∨ x = nd g n + 4) s (csI (csA s (nd g n + 4) t.length b0) 4 (nd g n + 1) (nI (t.length + 1))) := ((cfr_A _ _ _).mono (fun x z => Or.inr z)).trans ((cfr_I _ _ _ _).mono (fun x z => Or.inl z))
  have iO : ∀ j x, j ≠ 4 ∨ x ≠ nd g n + 1 → cI (csI (csA s (nd g n + 4) t.length b0) 4 (nd g n + 1) (nI (t.length + 1))) j x = cI s j x := fun j x hj => by
    rw [cI_other _ _ hj]
    rfl
  have i4 : cI (csI (csA s (nd g n + 4) t.length b0) 4 (nd g n + 1) (nI (t.length + 1))) 4 (nd g n + 1) = nI (t.length + 1) := cI_same _ _ _ _
  generalize csI (csA s (nd g n + 4) t.length b0) 4 (nd g n + 1) (nI (t.length + 1)) = s1 at st row f iO i4 ⊢
  have ll : (t ++ [x]).length = t.length + 1 := by rw [List.length_append]; rfl
  refine ⟨cr.nt hn f (fun j hj => iO j _ (Or.inl hj)) ⟨by rw [row, if_neg (by omega)]; exact z6.1, by rw [row, if_neg (by omega)]; exact z6.2⟩ st, ⟨by rw [ll]; exact i4, by rw [ll]; omega, by rw [ll]; exact hl, isB_app n4 (isB_one hx), fun i hi h4 h5 => ?_⟩, ⟨fun x hx => iO 4 x (Or.inr (by have := (cr.kd hx).2.1; unfold nd at *; omega)), f.pf⟩⟩
  rw [ll] at hi
  rw [row, bg_snoc]
  by_cases c : i = t.length
  · rw [if_pos c, if_neg (by omega), if_pos c, hb]
  · rw [if_neg c, if_pos (by omega)]
    exact n5 i (by omega) h4 h5
/-- what a message tells, in use -/
theorem CR.ms (cr : CR F g H T s ct hd w pe) {a : Nat} (ha : 1 ≤ us g H T s hd a) : mS s a (ct a) := (cr.2.2.2.1.m ha).1
/-- a note of this height -/
theorem jot_C {kd b1 fr : Nat} {mo : Option Nat} {x : List Nat} (hN : 100 ≤ N) (cr : CR F g H T s ct hd w pe) (hn : n < H) (hk : kd < 256) (h1 : 1 ≤ wN w n 1 ∧ wN w n 1 ≤ 41) (hb : b1 < 256) (h15 : 0 ≤ wN w n 15 ∧ wN w n 15 ≤ 99) (h12 : 0 ≤ wN w n 12 ∧ wN w n 12 ≤ 1000) (hx : (mo = none ∧ x = []) ∨ ∃ a, mo = some a ∧ 1 ≤ us g H T s hd a ∧ fr ≤ (ct a).length ∧ x = sl (ct a) fr ((ct a).length - fr)) (hl : x.length ≤ 900) : wp (p_X4_jot N g H T s (nd g n + 1) (nI kd) (iI (wN w n 1)) (nI b1) mo (nI fr)) (k_X4_jot N g H T s (nd g n + 1) (nI kd) (iI (wN w n 1)) (nI b1) mo (nI fr)) (fun z => (((aOwn w n (ownT w n kd (b1 :: x))).1 = true ∧ z.1 = nI 1 ∧ CR F g H T z.2 ct hd (aOwn w n (ownT w n kd (b1 :: x))).2 pe) ∨ ((aOwn w n (ownT w n kd (b1 :: x))).1 = false ∧ z.1 = nI 0 ∧ CR F g H T z.2 ct hd (aWr w n (ownT w n kd (b1 :: x)) (80 + 2 * (wN w n 15).toNat)) pe ∧ (aOwn w n (ownT w n kd (b1 :: x))).2 = aFall (aWr w n (ownT w n kd (b1 :: x)) (80 + 2 * (wN w n 15).toNat)) n)) ∧ ffr g H hd s z.2) := by
  have e3 : nd g n + 1 + 3 = nd g n + 4 := rfl
  have v1 : iI (wN w n 1) = nI (wN w n 1).toNat := by
    rw [← iI_n]
    congr 1
    omega
  have v15 : iI (wN w n 15) = nI (wN w n 15).toNat := by
    rw [← iI_n]
    congr 1
    omega
  have i6 : ∀ s1, CR F g H T s1 ct hd w pe → cI s1 6 (nd g n + 1) = nI (wN w n 15).toNat := fun s1 c1 => ((c1.node hn).2.2.1.2.1).trans v15
  show wp (KO_X4_jot_0 N g H T (nd g n + 1) (nI kd) (iI (wN w n 1)) (nI b1) mo (nI fr) s) (KF_X4_jot_0 N g H T (nd g n + 1) (nI kd) (iI (wN w n 1)) (nI b1) mo (nI fr) s) _
  unfold KO_X4_jot_0 KF_X4_jot_0
  rw [v1, i6 s cr]
  refine wp_call (open_C (N := N) (k := kd) (h := (wN w n 1).toNat) (q := (wN w n 15).toNat) cr hn hk (by omega) (by omega)) ?_
  rintro ⟨o1, o2, o3⟩
  generalize k_X4_open N g H T s (nd g n + 1) (nI kd) (nI (wN w n 1).toNat) (nI (wN w n 15).toNat) = s1 at o1 o2 o3 ⊢
  unfold KO_X4_jot_10 KF_X4_jot_10
  have l8 : cI s1 4 (nd g n + 1) = nI 8 := o2.1
  have i4' : ∀ v, cI (csA s1 (nd g n + 4) 8 v) 4 (nd g n + 1) = nI 8 := fun _ => l8
  rw [e3, l8, n_clamp (by omega), i4', n_add, sb2, show b1 % 256 = b1 by omega]
  obtain ⟨b1', b2, b3⟩ := addB_C (x := b1) o1 hn o2 hb (by rw [ntH_len]; decide)
  rw [ntH_len] at b1' b2 b3
  refine wp_and ((n_in (by omega)).2 (by omega)) ?_
  generalize csI (csA s1 (nd g n + 4) 8 (sb b1)) 4 (nd g n + 1) (nI (8 + 1)) = s2 at b1' b2 b3 ⊢
  have tl : (ownT w n kd (b1 :: x)).length = 9 + x.length := by
    unfold ownT
    rw [List.length_append, ntH_len]
    show 8 + (x.length + 1) = _
    omega
  have fin : ∀ s3, CR F g H T s3 ct hd w pe → noC s3 (nd g n) (ownT w n kd (b1 :: x)) → ffr g H hd s s3 → wp (KO_X4_jot_52 N g H T (nd g n + 1) s3) (KF_X4_jot_52 N g H T (nd g n + 1) s3) (fun z => (((aOwn w n (ownT w n kd (b1 :: x))).1 = true ∧ z.1 = nI 1 ∧ CR F g H T z.2 ct hd (aOwn w n (ownT w n kd (b1 :: x))).2 pe) ∨ ((aOwn w n (ownT w n kd (b1 :: x))).1 = false ∧ z.1 = nI 0 ∧ CR F g H T z.2 ct hd (aWr w n (ownT w n kd (b1 :: x)) (80 + 2 * (wN w n 15).toNat)) pe ∧ (aOwn w n (ownT w n kd (b1 :: x))).2 = aFall (aWr w n (ownT w n kd (b1 :: x)) (80 + 2 * (wN w n 15).toNat)) n)) ∧ ffr g H hd s z.2) := fun s3 c3 n3 f3 => by
    unfold KO_X4_jot_52 KF_X4_jot_52
    rw [i6 s3 c3, n_mul, n_add]
    have my : nMny (ownT w n kd (b1 :: x)) ≤ 2 := by
      unfold nMny
      rw [tl]
      omega
    refine wp_call (write_C (N := N) (fst := 80 + 2 * (wN w n 15).toNat) hN c3 hn n3 (by omega) h12 (fun k y q k1 k2 _ q1 q2 => by omega)) ?_
    rintro ⟨wr, wf'⟩
    generalize k_X4_write N g H T s3 (nd g n + 1) (nI (80 + 2 * (wN w n 15).toNat)) = z at wr wf' ⊢
    unfold KO_X4_jot_65 KF_X4_jot_65
    rcases wr with ⟨tr, z1, c4⟩ | ⟨tr, z1, c4⟩
    · have eo : aOwn w n (ownT w n kd (b1 :: x)) = (false, aFall (aWr w n (ownT w n kd (b1 :: x)) (80 + 2 * (wN w n 15).toNat)) n) := by
        have en : aNote w n (ownT w n kd (b1 :: x)) (80 + 2 * (wN w n 15).toNat) = (false, aFall (aWr w n (ownT w n kd (b1 :: x)) (80 + 2 * (wN w n 15).toNat)) n) := by
          unfold aNote
          rw [if_pos tr]
        unfold aOwn
        rw [en]
        rfl
      rw [z1, eo]
      exact wp_pos rfl (wp_fin trivial ⟨Or.inr ⟨rfl, rfl, c4, rfl⟩, f3.trans wf'⟩)
    · have eo : aOwn w n (ownT w n kd (b1 :: x)) = (true, sN (sN (aWr w n (ownT w n kd (b1 :: x)) (80 + 2 * (wN w n 15).toNat)) n 13 (wN w n 13 + 1)) n 15 (wN w n 15 + 1)) := by
        have en : aNote w n (ownT w n kd (b1 :: x)) (80 + 2 * (wN w n 15).toNat) = (true, sN (aWr w n (ownT w n kd (b1 :: x)) (80 + 2 * (wN w n 15).toNat)) n 13 (wN w n 13 + 1)) := by
          unfold aNote
          rw [if_neg (by rw [tr]; decide)]
        unfold aOwn
        rw [en]
        rfl
      rw [z1, eo]
      have e6 : cI z.2 6 (nd g n + 1) = iI (wN w n 15) := by
        refine ((c4.node hn).2.2.1.2.1).trans ?_
        congr 1
        rw [N_o _ _ _ _ (Or.inr (by decide))]
        show (if n = n ∧ (15 : Nat) = 12 then _ else if n = n ∧ (15 : Nat) = 14 then _ else if n = n ∧ 100 + (80 + 2 * (wN w n 15).toNat) ≤ 15 ∧ 15 < 100 + (80 + 2 * (wN w n 15).toNat) + nMny _ then _ else w.1 n 15) = w.1 n 15
        rw [if_neg (by omega), if_neg (by omega), if_neg (by omega)]
      rw [e6, iI_addn]
      refine wp_neg (by decide) (wp_fin trivial ⟨Or.inl ⟨rfl, rfl, c4.lg hn (Or.inr (Or.inl ⟨rfl, rfl⟩))⟩, (f3.trans wf').trans ⟨fun x hx => ?_, rfl, fun _ _ _ _ => rfl, fun _ _ _ _ => rfl⟩⟩)
      exact cI_other _ _ (Or.inl (by decide))
  unfold KO_X4_jot_31 KF_X4_jot_31
  rcases hx with ⟨hx, hx2⟩ | ⟨a, hx, ha, hfr, hx2⟩
  · rw [hx]
    refine wp_pos rfl (fin s2 b1' ?_ (o3.trans b3))
    have : ownT w n kd (b1 :: x) = ntH kd (wN w n 1).toNat (wN w n 15).toNat ++ [b1] := by rw [hx2]; rfl
    rw [this]
    exact b2
  · rw [hx]
    have ha2 : 1 ≤ us g H T s2 hd a := by rw [(o3.trans b3).2.us]; exact ha
    have m := b1'.ms ha2
    have kk := (b1'.2.1.ms m.1).2.1
    rw [zsome, m.2.1]
    have la := m.2.2.2.1
    refine wp_neg someN (wp_call (addL_C (N := N) (r := a + 2) (a := fr) (b := (ct a).length) b1' hn b2 m.2.2.1 kk (by have := b1'.2.2.2.1.n m.1; unfold nd at *; omega) hfr (Nat.le_refl _) ?_) ?_)
    · rw [List.length_append, ntH_len]
      show 8 + 1 + _ ≤ 1000
      rw [hx2, sl_len] at hl
      omega
    rintro ⟨c1, c2, c3⟩
    refine fin _ c1 ?_ ((o3.trans b3).trans c3)
    have : ownT w n kd (b1 :: x) = (ntH kd (wN w n 1).toNat (wN w n 15).toNat ++ [b1]) ++ sl (ct a) fr ((ct a).length - fr) := by
      rw [hx2, List.append_assoc]
      rfl
    rw [this]
    exact c2
end
end
