section
/-! THE START: the nodes settle, the ledger gets its world; both sides begin alike -/
section
variable {F N g H T L i : Nat} {s S : cS} {ct : Nat → List Nat} {hd : List Nat} {w : Wd} {pe pe' : Nat → Int} {x1 x2 : Int32}
theorem o9_g {a : Nat} (t : isO g H 9 a) : a = g := by
  rcases t with t | t | t | t | t | t | t | t | t <;> first | exact t.2 | exact absurd t.1 (by decide)
/-- the ledger gets its world -/
theorem St.R9 (h : St 0 g H T s) (h0 : 1 ≤ H) : St 1 g H T (csR s 0 g (some (g + 8))) := by
  have hh := h
  have t5 : isO g H 5 (nd g 0) := Or.inr (Or.inr (Or.inr (Or.inr (Or.inl ⟨rfl, 0, h0, rfl⟩))))
  have l12 : cL s (g + 8) = 12 := h.rl (c := 5) (k := 0) (kd := 9) t5 rfl (by omega) (by omega)
  have k9 : cK s (g + 8) = 9 := h.rk (c := 5) (k := 0) (kd := 9) (ln := 12) t5 rfl (by omega) _ rfl
  obtain ⟨h1, h2, h3, h4, h5, h6, h7, h8, h9, h10, h11⟩ := h
  have e : ∀ k' b, k' ≠ 0 ∨ b ≠ g → cR (csR s 0 g (some (g + 8))) k' b = cR s k' b := fun _ _ hn => cR_ne _ _ hn
  refine ⟨h1, fun c k' b tb hu q hq => ?_, fun b hb => ?_, h4, h5, h6, h7, fun b k' tb hk' => ?_, fun k' hk' => ?_, h10, h11⟩
  · by_cases z : k' = 0 ∧ b = g
    · obtain ⟨z1, z2⟩ := z
      rw [z1, z2] at hq ⊢
      rw [z2] at tb
      have c9 : c = 9 := isO_apart hh tb isO9
      rw [c9] at hq ⊢
      have hq : some (g + 8, 9, 12) = some q := hq
      cases hq
      exact ⟨cR_at _ _ _ _, k9, Or.inr l12⟩
    · rw [e k' b (by omega)]
      exact h2 c k' b tb (fun y => z ⟨y.2.2, by have tb' := tb; rw [y.2.1] at tb'; exact o9_g tb'⟩) q hq
  · have g3 := h3 b hb
    rw [e 0 b (Or.inr (by omega)), e 1 b (Or.inl (by decide)), e 6 b (Or.inl (by decide))]
    exact g3
  · rw [e k' b (Or.inl (by omega))]
    exact h8 b k' tb hk'
  · rw [e k' _ (Or.inl (by omega))]
    exact h9 k' hk'
theorem St.lo (h : St 1 g H T s) : St 0 g H T s := ⟨h.1, fun c k a t _ q hq => h.2.1 c k a t (by omega) q hq, h.2.2⟩
theorem St.sB {u n k : Nat} (h : St u g H T s) (hn : cn s ≤ n) : St u g H T (csB s n k) := by
  obtain ⟨h1, h2, h3, h4, h5, h6, h7, h8, h9, h10, h11⟩ := h
  exact ⟨h1, h2, h3, h4, h5, h6, h7, h8, h9, fun a ha => h10 a (Nat.le_trans hn ha), h11⟩
/-- a state that tells the same -/
theorem CR.as (h : CR F g H T s ct hd w pe) (st : St 0 g H T S) (n1 : cn s ≤ cn S) (rm : RM g H (g + 400 + rb pe') (90000 + 7000 * rb pe') S) (eI : cI S = cI s) (eA : cA S = cA s) (eP : cP S = cP s) (eJ : cJ S = cJ s) (eK : cK S = cK s) (eL : cL S = cL s) (eR : ∀ k a, k ≠ 0 → cR S k a = cR s k a) (hp : ∀ n, n < H → pe' n = pe n) : CR F g H T S ct hd w pe' := by
  obtain ⟨h1, h2, h3, h4, h5, e1, e2, e3, e4, e5, e6⟩ := h
  refine ⟨h1, st, by omega, ?_, rm, ?_, ?_, ?_, ?_, ?_, fun n hn => ?_⟩
  · refine h4.fr (fun _ => by rw [eK]) (fun _ _ => by rw [eL]) (fun _ _ => by rw [eI]) (fun b _ => eR _ _ (by decide)) (fun j hj => eR _ _ (by omega)) (fun b => ?_) (fun b hb hm => hm.fr (by rw [eK]) (by rw [eL]) (by rw [eI]) (by rw [eI]) (by rw [eI]) (by rw [eJ]) (by rw [eA])) ⟨fun n e i a q1 q2 q3 q4 => ?_, fun n k a q1 q2 q3 => ?_⟩
    · unfold us
      rw [cnA_fr (s := s) (by rw [eP]) (fun _ _ _ _ => by rw [eP]) (fun n k _ hk => eR _ _ (by omega))]
    · rw [eP] at q4
      rw [eL, eI]
      exact h4.2.2.2.2.1 n e i a q1 q2 q3 q4
    · rw [eR _ _ (by omega)] at q3
      rw [eI]
      exact h4.2.2.2.2.2 n k a q1 q2 q3
  · unfold kFx
    rw [eI]
    exact e1
  · unfold kSk cSkT
    rw [eI, eA, eP]
    exact e2
  · unfold kTp
    rw [eI, eA]
    exact e3
  · unfold kLa bkC rtC
    rw [eI, eA]
    exact e4
  · unfold kIn
    rw [eP]
    exact e5
  · rw [hp n hn]
    exact (e6 n hn).fx ⟨n1, fun a _ => ⟨by rw [eK], by rw [eL]⟩, fun k o _ _ => by rw [eI], fun k hk => eR _ _ (by omega), fun o _ _ => by rw [eA], fun o _ _ => ⟨by rw [eJ], by rw [eP]⟩, fun i r _ _ _ _ _ _ => by rw [eA]⟩
theorem nM_B {m k L : Nat} (h : ∀ a, cn s ≤ a → cK s a = 0) : nM (csB s (cn s + m) k) L = nM s L := by
  show smN (fun a => if cK s a = 5 ∧ cL s (a + 2) = L then 1 else 0) (cn s + m) = smN (fun a => if cK s a = 5 ∧ cL s (a + 2) = L then 1 else 0) (cn s)
  induction m with
  | zero => rfl
  | succ m ih =>
    show smN (fun a => if cK s a = 5 ∧ cL s (a + 2) = L then 1 else 0) (cn s + m) + (if cK s (cn s + m) = 5 ∧ cL s (cn s + m + 2) = L then 1 else 0) = _
    rw [if_neg (fun q => by have q1 := q.1; rw [h _ (by omega)] at q1; exact absurd q1 (by decide)), ih]
    rfl
/-- the nodes below have settled -/
def kI (F g H T i : Nat) (s : cS) : Prop := (∃ ct, CR F g H T s ct [] (aIni T F i) pe1) ∧ (∀ m, m < i → cI s 5 (nd g m + 6) = nI 0) ∧ wA F H T (aIni T F i) ∧ ∀ m, m < i → rest (aIni T F i) m T F
theorem kI.step (hN : 12000 ≤ N) (hc : cst F H T) (h : kI F g H T i s) (hi : i < H) : pset1 N g H T s i ∧ kI F g H T (i + 1) (kset1 N g H T s i) := by
  obtain ⟨⟨ct, cr⟩, b5, wa, re⟩ := h
  have cb := hc.bb
  obtain ⟨o1, o2, o3, o4⟩ := aIni_o (T := T) (F := F) i i (Nat.le_refl _)
  have v := w00_v i
  have ab := (AI_ini hc i (by omega)).2 hi
  have ai := (AI_ini hc (i + 1) hi).1
  have hu : wN (aIni T F i) i 0 = 1 := by
    rw [o1]
    rfl
  have c1 : CR F g H T (csI s 18 (nd g i) (nI 0)) ct [] (aIni T F i) (fun m => if m = i then ((0 : Nat) : Int) else pe1 m) := by
    have q := cr.pnd (i := ((0 : Nat) : Int)) hi hu
    rw [iI_n] at q
    exact q
  have be : beO F H T (aIni T F i) i 0 := ⟨wa.1.1, wa.1.2 i hi, hu, by rw [o1, v.1]; decide, by decide, Or.inr ⟨by rw [o1, v.2.1]; decide, by rw [o1]; exact v.2.2.2.2.2.2⟩, by rw [o1, v.2.2.1]; decide, by rw [o1, v.2.2.2.1]; decide⟩
  obtain ⟨p1, ⟨ct', _, p2⟩, p3, p4⟩ := settle_P hN c1 hi (by decide) be (if_pos (by omega)) ab.1.1 (ab.1.2 i hi) (wa.2.1 i hi)
  refine ⟨p1, ⟨ct', p2⟩, ?_, ?_, ?_⟩
  · intro m hm
    by_cases e : m = i
    · rw [e]
      exact p4
    · have p5 := p3 m (by omega) e
      rw [cI_other _ _ (Or.inl (by decide))] at p5
      exact p5.trans (b5 m (by omega))
  · exact (wa.step wfr.begin ab.1 pxf.begin tzf.begin).step wfr.rules ai.1 (pxf.rules ab.1 hi) (tzf.rules ab.1 hi)
  · intro m hm
    obtain ⟨G, g1⟩ := ab.1.1
    by_cases e : m = i
    · rw [e]
      exact rest_rules hi g1 (ab.1.2 i hi)
    · have f : wfr i (aIni T F i) (aIni T F (i + 1)) := wfr.begin.trans wfr.rules
      obtain ⟨a1, a2, a3, a4⟩ := f.1 m e
      exact (re m (by omega)).q ⟨fun _ _ => by rw [a1], fun _ _ => by rw [a2]⟩
theorem mdB.ki (h : mdB F g H T H s) (hc : cst F H T) : kI F g H T 0 s := by
  have h1 : 1 ≤ H := by
    unfold cst at hc
    omega
  refine ⟨⟨fun _ => [], h.cr hc h1⟩, fun m hm => absurd hm (by omega), ⟨(AI_ini hc 0 (by omega)).1.1, fun n hn => ⟨fun k y _ _ e => ?_, trivial⟩, fun n hn => Or.inl (by show (1 : Int) ≤ 40; decide)⟩, fun m hm => absurd hm (by omega)⟩
  · have e1 : (if 7 = 9 ∧ k = 0 then some z32 else none) = some y := e
    rw [if_neg (by omega)] at e1
    cases e1
theorem kset_C (hN : 12000 ≤ N) (hc : cst F H T) (h : kI F g H T 0 s) : ∀ i, i ≤ H → kI F g H T i (kset N g H T s i)
  | 0, _ => h
  | i + 1, hi => ((kset_C hN hc h i (by omega)).step hN hc hi).2
theorem found_C (hN : 12000 ≤ N) (hc : cst F H T) (hL : L ≤ F) (hH : H + L = T) (h0 : ob s g 10 4 z0 (upR (upR n0 1 (some (g + 1))) 2 (some (g + 2))) z0) (h1 : ob s (g + 1) 20 1000 z0 n0 z0) (h2 : ob s (g + 2) 20 1024 z0 n0 z0) (hn : cn s = g + 3) (hk : ck s ≤ 3000) (hb : ∀ b, b < g ∨ g + 3 ≤ b → cK s b = 0) : wp (p_X10_found N g H T s (nI F) (nI L)) (k_X10_found N g H T s (nI F) (nI L)) (fun z => z.1 = some (g + 8) ∧ kI F g H T H z.2) := by
  have cb := hc.bb
  obtain ⟨m1, m2, m3⟩ := made_c (N := N) (by omega) hc.2.2.1 ⟨hc.1, hc.2.1⟩ hL hH h0 h1 h2 hn hk hb
  have K := kset_C hN hc (m3.ki hc)
  exact ⟨⟨m1, m2, m3.st, by omega, fun i hi => ((K i (by omega)).step hN hc hi).1⟩, m2, K H (Nat.le_refl _)⟩
/-- the ledger when it is made -/
def liC (F g H T : Nat) (z : cS) : Prop := ∃ S, kI F g H T H S ∧ z = csR S 0 g (some (g + 8))
theorem init_54 (hN : 12000 ≤ N) (hc : cst F H T) (hL : L ≤ F) (hH : H + L = T) (h0 : ob s g 10 4 z0 (upR (upR n0 1 (some (g + 1))) 2 (some (g + 2))) z0) (h1 : ob s (g + 1) 20 1000 z0 n0 z0) (h2 : ob s (g + 2) 20 1024 z0 n0 z0) (hn : cn s = g + 3) (hk : ck s ≤ 3000) (hb : ∀ b, b < g ∨ g + 3 ≤ b → cK s b = 0) : wp (O_X11_init1_54 N g H T (some g) (nI F) (nI L) s) (F_X11_init1_54 N g H T (some g) (nI F) (nI L) s) (liC F g H T) := by
  obtain ⟨f1, f2, f3⟩ := found_C hN hc hL hH h0 h1 h2 hn hk hb
  have st : St 0 g H T (k_X10_found N g H T s (nI F) (nI L)).2 := f3.1.choose_spec.2.1
  refine ⟨⟨f1, st.k isO9, trivial⟩, _, f3, ?_⟩
  show csR (k_X10_found N g H T s (nI F) (nI L)).2 0 g (k_X10_found N g H T s (nI F) (nI L)).1 = _
  rw [f2]
theorem cinit_C (hN : 12000 ≤ N) : wp (p_X11_init N g (iH x1 x2) (iT x1) (csNew (cE g) 10 4) g x1 x2) (k_X11_init N g (iH x1 x2) (iT x1) (csNew (cE g) 10 4) g x1 x2) (liC (iF x1) g (iH x1 x2) (iT x1)) := by
  obtain ⟨c, tl⟩ := iFLH x1 x2
  have cb := c.b
  have c1 := c.1
  have c2 := c.2.1
  have c3 := c.2.2.1
  have c4 := c.2.2.2.1
  have c5 := c.2.2.2.2
  have lF : iL x1 x2 ≤ iF x1 := by omega
  have hL : iH x1 x2 + iL x1 x2 = iT x1 := by omega
  show wp (O_X11_init1_0 N g (iH x1 x2) (iT x1) (some g) x1 x2 (csNew (cE g) 10 4)) (F_X11_init1_0 N g (iH x1 x2) (iT x1) (some g) x1 x2 (csNew (cE g) 10 4)) _
  have b0 : ob (csNew (cE g) 10 4) g 10 4 z0 n0 z0 := ob_new (s := cE g)
  have k0 : ∀ b, b ≠ g → cK (csNew (cE g) 10 4) b = 0 := fun b hb => up1_o hb
  have d0 : ck (csNew (cE g) 10 4) = 4 := rfl
  have n1 : cn (csNew (cE g) 10 4) = g + 1 := rfl
  generalize csNew (cE g) 10 4 = s at b0 k0 d0 n1 ⊢
  unfold O_X11_init1_0 F_X11_init1_0
  refine wp_and rfl (st_al (O := O_X11_init1_13 N g (iH x1 x2) (iT x1) (some g) x1 x2) (Fk := F_X11_init1_13 N g (iH x1 x2) (iT x1) (some g) x1 x2) (l := 1000) b0 n1 (by omega) rfl (by omega) (fun s1 a1 b1 c1' d1 e1 => ?_))
  unfold O_X11_init1_13 F_X11_init1_13
  refine st_al (O := O_X11_init1_22 N g (iH x1 x2) (iT x1) (some g) x1 x2) (Fk := F_X11_init1_22 N g (iH x1 x2) (iT x1) (some g) x1 x2) (l := 1024) a1 c1' (by omega) rfl (by omega) (fun s2 a2 b2 c2' d2 e2 => ?_)
  have go : ∀ x y : Int32, x = nI (iF x1) → y = nI (iL x1 x2) → wp (O_X11_init1_54 N g (iH x1 x2) (iT x1) (some g) x y s2) (F_X11_init1_54 N g (iH x1 x2) (iT x1) (some g) x y s2) (liC (iF x1) g (iH x1 x2) (iT x1)) := fun x y ex ey => by
    rw [ex, ey]
    refine init_54 hN c lF hL a2 (b1.sme (e2 _ (by omega) (by omega))) b2 (by omega) (by omega) (fun b hb => ?_)
    rw [(e2 b (by omega) (by omega)).1, (e1 b (by omega) (by omega)).1]
    exact k0 b (by omega)
  have fin : ∀ x : Int32, x = nI (iF x1) → wp (O_X11_init1_37 N g (iH x1 x2) (iT x1) (some g) x2 x s2) (F_X11_init1_37 N g (iH x1 x2) (iT x1) (some g) x2 x s2) (liC (iF x1) g (iH x1 x2) (iT x1)) := fun x ex => by
    unfold O_X11_init1_37 F_X11_init1_37 O_X11_init1_53 F_X11_init1_53
    refine wp_ite (fun d => go _ _ ex ?_) (fun d => ?_)
    · have : iL x1 x2 = 0 := by
        rw [Int32.lt_iff_toInt_lt] at d
        have d : x2.toInt < 0 := d
        unfold iL
        rw [if_neg (by omega)]
      rw [this]
    obtain ⟨k, k1, k2⟩ := i_nat d
    have t2 : x2.toInt = k := by
      rw [k2, ← iI_n, iI_toInt (by omega) (by omega)]
    have q : x < x2 ↔ iF x1 < k := by rw [ex, k2, n_lt' (by omega) k1]
    refine wp_ite (fun g => go _ _ ex ?_) (fun g => go _ _ ex ?_) <;> rw [q] at g
    · have : iL x1 x2 = 0 := by
        unfold iL
        rw [if_neg (by omega)]
      rw [this]
    · have : iL x1 x2 = k := by
        unfold iL
        rw [if_pos (by omega), k2, n_clamp k1]
      rw [this, k2]
  unfold O_X11_init1_22 F_X11_init1_22 O_X11_init1_36 F_X11_init1_36
  have t1 : (nI 1).toInt = 1 := rfl
  have t4 : (nI 4).toInt = 4 := rfl
  refine wp_ite (fun d => fin _ ?_) (fun d => ?_)
  · have : iF x1 = 1 := by
      rw [Int32.lt_iff_toInt_lt, t1] at d
      unfold iF
      rw [if_neg (by omega)]
    rw [this]
  rw [Int32.lt_iff_toInt_lt, t1] at d
  refine wp_ite (fun g => fin _ ?_) (fun g => fin _ ?_) <;> rw [Int32.lt_iff_toInt_lt, t4] at g
  · have : iF x1 = 1 := by
      unfold iF
      rw [if_neg (by omega)]
    rw [this]
  · obtain ⟨k, k1, k2⟩ := i_nat (x := x1) (fun z => by
      rw [Int32.lt_iff_toInt_lt] at z
      have z : x1.toInt < 0 := z
      omega)
    have : iF x1 = k := by
      unfold iF
      rw [if_pos (by omega), k2, n_clamp k1]
    rw [this, ← k2]
theorem rSum_v : rSum 68 = 603314 := by decide +kernel
theorem RQ_init (hN : 12000 ≤ N) : pS_init N g (RelQ g) := fun x1 x2 => by
  obtain ⟨c, _⟩ := iFLH x1 x2
  have h1 : 1 ≤ iH x1 x2 := by
    unfold cst at c
    omega
  have R := init_ok (N := N) (x1 := x1) (x2 := x2) (by omega)
  have C := cinit_C (N := N) (g := g) (x1 := x1) (x2 := x2) hN
  obtain ⟨C1, S, ⟨⟨ct, cr⟩, b5, wa, re⟩, eS⟩ := C
  have e0 : p0 N g x1 x2 = csB (csR S 0 g (some (g + 8))) (cn S + 69) (ck S + 89 + rSum 68) := by
    unfold p0 p0c
    rw [eS]
    rfl
  have st := cr.2.1
  have st1 : St 1 g (iH x1 x2) (iT x1) (p0 N g x1 x2) := by
    rw [e0]
    exact (st.R9 h1).sB (by show cn S ≤ cn S + 69; omega)
  have rm : RM g (iH x1 x2) (g + 400 + rb (fun _ => -1)) (90000 + 7000 * rb (fun _ => -1)) (p0 N g x1 x2) := by
    have r := cr.2.2.2.2.1
    rw [show rb pe1 = 0 from rb_1] at r
    rw [rb_0, e0]
    have nm : ∀ L, nM (csB (csR S 0 g (some (g + 8))) (cn S + 69) (ck S + 89 + rSum 68)) L = nM S L := fun L => nM_B (s := S) (m := 69) (k := ck S + 89 + rSum 68) (fun a ha => st.2.2.2.2.2.2.2.2.2.1 a ha)
    obtain ⟨r1, r2, r3, r4⟩ := r
    refine ⟨?_, ?_, ?_, ?_⟩ <;> rw [nm]
    · rw [nm]
      show cn S + 69 ≤ g + 400 + 100 + 3 * (nM S 128 + nM S 1000) + nSe g (iH x1 x2) S
      omega
    · rw [nm, rSum_v]
      show ck S + 89 + 603314 ≤ 90000 + 7000 * 100 + 139 * nM S 128 + 1011 * nM S 1000 + 512 * nSe g (iH x1 x2) S
      omega
    · exact r3
    · exact r4
  refine ⟨C1, R.1, iF x1, _, R.2, ⟨ct, ?_, ?_⟩, ⟨AJ_ini c, wa, re⟩, ?_, st1⟩
  · refine cr.as st1.lo ?_ rm ?_ ?_ ?_ ?_ ?_ ?_ ?_ (fun n hn => ?_)
    · rw [e0]
      show cn S ≤ cn S + 69
      omega
    · rw [e0]
      rfl
    · rw [e0]
      rfl
    · rw [e0]
      rfl
    · rw [e0]
      rfl
    · rw [e0]
      rfl
    · rw [e0]
      rfl
    · intro k a hk
      rw [e0]
      exact cR_ne _ _ (Or.inl hk)
    · have cb := c.b
      have c4 := c.2.2.2.1
      exact (if_pos (by omega)).symm
  · intro m hm
    rw [e0]
    exact b5 m hm
  · rw [(aIni_T _).1]
    omega
/-- all of it -/
theorem RQ_whole (hN : 12000 ≤ N) : pS_all N g (RelQ g) := RQ_all hN (RQ_init hN)
end
end
