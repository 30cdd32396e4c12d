section
/-! THE CLASS'S NODE: a timer ends, and the rules are asked -/
section
variable {F N g H T n : Nat} {s s0 S : cS} {ct : Nat → List Nat} {hd : List Nat} {w w' V X : Wd} {pe pe' : Nat → Int} {t f k r : Nat} {G : Gh}
/-- the rules are asked where a round is to begin -/
theorem settle_P (hN : 12000 ≤ N) (h : CR F g H T s ct hd V (fun m => if m = n then ((r : Nat) : Int) else pe m)) (hn : n < H) (hl : hd.length ≤ 25) (be : beO F H T V n r) (hp : pe n = -1) (gb : ∃ G, GI F H T G (aBegin V n T r)) (gkb : giK (wN (aBegin V n T r) n)) (hpz : pz V n) : wp (p_X7_settle N g H T s (some (nd g n))) (k_X7_settle N g H T s (some (nd g n))) (fun s' => reC F g H T ct hd (aRules (aBegin V n T r) n T F) pe s' ∧ m6 g H n s s' ∧ cI s' 5 (nd g n + 6) = nI 0) := by
  have hz : pzK F H T n := pzK_ok hn
  have hpb : pz (aBegin V n T r) n := pxf.begin hpz
  obtain ⟨GB, gb⟩ := gb
  have mb := gb.muB hn
  show wp (KO_X7_settle_0 N g H T (some (nd g n)) s) (KF_X7_settle_0 N g H T (some (nd g n)) s) _
  unfold KO_X7_settle_0 KF_X7_settle_0
  have key : wp (KOL_X7_settle_2 N g H T N (some (nd g n)) (nI 0) s) (KL_X7_settle_2 N g H T N (some (nd g n)) (nI 0) s) (stQ F g H T s ct hd (aRules (aBegin V n T r) n T F) pe n) := by
    obtain ⟨N', eN⟩ : ∃ N', N = N' + 1 := ⟨N - 1, by omega⟩
    obtain ⟨⟨GV, gv⟩, gkv, uv, h4v, hr, b1, b2, b3⟩ := be
    have tn := settle_turn (f := N') (t := 0) (N := N) (by omega) h hn gv uv h4v (by omega) (m6.refl (s := s)) (Q := stQ F g H T s ct hd (aRules (aBegin V n T r) n T F) pe n) (fun S2 c3 r3 x3 => ?_)
    · rw [← eN] at tn
      exact tn
    · have pv : (fun m => if m = n then ((r : Nat) : Int) else pe m) n = (r : Int) := if_pos rfl
      have bg := begin_G (N := N) (by omega) c3 hn hl gv gkv uv hr pv r3 b1 b2 b3
      have x5 := (k5c_X7_begin c3.2.1 (tN1 hn) bg.1).2
      have e18 : cI S2 18 (nd g n) = nI r := by
        rw [(c3.node hn).1.2.2.2.2.2.2.2.2.2, if_pos rfl, iI_n]
      have ep : (fun m => if m = n then -1 else if m = n then ((r : Nat) : Int) else pe m) = pe := funext fun m => by
        by_cases q : m = n
        · rw [if_pos q, q, hp]
        · rw [if_neg q, if_neg q]
      rw [ep] at bg
      unfold KO_X7_settle_45 KF_X7_settle_45 KO_X7_settle_56 KF_X7_settle_56 KO_X7_settle_133 KF_X7_settle_133
      rw [zsome, e18, n_add]
      refine wp_and someN (wp_neg (n_lt0 (by omega)) (wp_call bg (fun q => ?_)))
      obtain ⟨ct', c1, c2⟩ := q
      exact wp_mono (settle_l (s0 := s) (by omega) hn hl hp hz 4000 (aBegin V n T r) _ ct' (0 + 1) N' 5000 GB c2 gb gkb hpb mb.2 (by omega) (by omega) (by omega) (x3.trans x5.six)) (fun q => q.c_ c1)
  refine wp_seq key (fun Z hZ => ?_)
  unfold KOA_X7_settle_2 KA_X7_settle_2
  obtain ⟨hr, hx, ⟨G', g'⟩, q⟩ := hZ
  rcases q with ⟨z1, z2⟩ | ⟨z1, z2⟩
  · rw [if_pos z1, if_pos z1]
    unfold KO_X7_settle_132 KF_X7_settle_132
    exact wp_fin trivial ⟨hr, hx, z2⟩
  · have n0 : ¬ Z.1 = 0 := by omega
    obtain ⟨ct', c1, c2⟩ := hr
    rw [if_neg n0, if_neg n0, z2]
    unfold KO_X7_settle_139 KF_X7_settle_139
    rw [zsome]
    have rf := refresh_C (N := N) (by omega) c2 hn (g'.2.1 n hn).b.1
    exact wp_and someN (wp_fin ⟨rf.1, trivial⟩ ⟨⟨ct', c1, rf.2.1⟩, hx.trans rf.2.2.2.1, rf.2.2.1⟩)
theorem reC.mono {ct' : Nat → List Nat} {W : Wd} (h : reC F g H T ct' hd W pe s) (hc : ∀ b, b ∈ hd → ct' b = ct b) : reC F g H T ct hd W pe s := by
  obtain ⟨c2, h1, h2⟩ := h
  exact ⟨c2, fun b hb => (h1 b hb).trans (hc b hb), h2⟩
theorem end_C (hN : 12000 ≤ N) (ht : t < 3) (h : CR F g H T s ct hd w pe) (hn : n < H) (hl : hd.length ≤ 25) (gi : GI F H T G w) (gk : giK (wN w n)) (hu : wN w n 0 = 1) (h40 : t = 2 → wN w n 1 ≤ 40) (hp : pe n = -1) (hpz : pz w n) : wp (p_X7_ring N g H T s (some (nd g n)) (nI t) ∧ p_X7_settle N g H T (k_X7_ring N g H T s (some (nd g n)) (nI t)) (some (nd g n))) (k_X7_settle N g H T (k_X7_ring N g H T s (some (nd g n)) (nI t)) (some (nd g n))) (fun s' => reC F g H T ct hd (aRules (aEnd w n T t) n T F) pe s' ∧ m6 g H n s s' ∧ cI s' 5 (nd g n + 6) = nI 0) := by
  have hz : pzK F H T n := pzK_ok hn
  have k := gi.2.1 n hn
  have o := k.ok h.1 gk
  have o2 := o.r
  have o3 := o.s
  have u := k.uo h.1 gk hn hu
  -- nothing happens
  have nil : ∀ S : cS, S = s → aEnd w n T t = w → wp (p_X7_settle N g H T S (some (nd g n))) (k_X7_settle N g H T S (some (nd g n))) (fun s' => reC F g H T ct hd (aRules (aEnd w n T t) n T F) pe s' ∧ m6 g H n s s' ∧ cI s' 5 (nd g n + 6) = nI 0) := fun S e1 e2 => by
    rw [e1, e2]
    exact settle_C hN h hn hl gi gk hp hz hpz
  -- a vote is said
  have say : ∀ (kd st : Nat), ((kd = 2 ∧ st = 1) ∨ (kd = 3 ∧ st = 2)) → wN w n 3 < st → aEnd w n T t = (aVote w n T kd st none).2 → p_X6_vote N g H T s (nd g n) (nI kd) none ∧ p_X7_utter N g H T (k_X6_vote N g H T s (nd g n) (nI kd) none).2 (some (nd g n)) (k_X6_vote N g H T s (nd g n) (nI kd) none).1 (nI st) ∧ wp (p_X7_settle N g H T (k_X7_utter N g H T (k_X6_vote N g H T s (nd g n) (nI kd) none).2 (some (nd g n)) (k_X6_vote N g H T s (nd g n) (nI kd) none).1 (nI st)) (some (nd g n))) (k_X7_settle N g H T (k_X7_utter N g H T (k_X6_vote N g H T s (nd g n) (nI kd) none).2 (some (nd g n)) (k_X6_vote N g H T s (nd g n) (nI kd) none).1 (nI st)) (some (nd g n))) (fun s' => reC F g H T ct hd (aRules (aEnd w n T t) n T F) pe s' ∧ m6 g H n s s' ∧ cI s' 5 (nd g n + 6) = nI 0) := fun kd st hk h3 e => by
    obtain ⟨y1, y2⟩ := say_C (N := N) (kd := kd) (st := st) (xo := none) (o := none) (by omega) h hn hl (by omega) (by omega) u hp (Or.inl ⟨rfl, rfl⟩)
    have x1 := k5c_X6_vote h.2.1 (isO5 hn) tK_none y1
    have x2 := k5c_X7_utter x1.1 (tN1 hn) x1.2.2 y2.1
    refine ⟨y1, y2.1, ?_⟩
    have y3 := y2.2
    generalize k_X7_utter N g H T (k_X6_vote N g H T s (nd g n) (nI kd) none).2 (some (nd g n)) (k_X6_vote N g H T s (nd g n) (nI kd) none).1 (nI st) = S at y3 x2 ⊢
    have x3 : m6 g H n s S := (M5.six x1.2.1).trans (M5.six x2.2)
    obtain ⟨ct', c1, c2⟩ := y3
    obtain ⟨⟨G', g'⟩, gk', -⟩ := gi.vote (k := kd) (s := st) (o := none) gk hn hk h3 (fun d e => by cases e)
    rw [e]
    exact wp_mono (settle_C hN c2 hn hl g' gk' hp hz (pxf.vote hpz)) (fun q => ⟨q.1.mono c1, x3.trans q.2.1, q.2.2⟩)
  show wp (KO_X7_ring_0 N g H T (some (nd g n)) (nI t) s ∧ p_X7_settle N g H T (KF_X7_ring_0 N g H T (some (nd g n)) (nI t) s) (some (nd g n))) (k_X7_settle N g H T (KF_X7_ring_0 N g H T (some (nd g n)) (nI t) s) (some (nd g n))) _
  have e11 := h.h3 hn o3.1
  have e10 := h.h2 hn o2.1
  unfold KO_X7_ring_0 KF_X7_ring_0 KO_X7_ring_25 KF_X7_ring_25 KO_X7_ring_52 KF_X7_ring_52 KO_X7_ring_18 KF_X7_ring_18 KO_X7_ring_22 KF_X7_ring_22 KO_X7_ring_45 KF_X7_ring_45 KO_X7_ring_49 KF_X7_ring_49 KO_X7_ring_76 KF_X7_ring_76
  rw [zsome, e11, e10]
  have n1 : ¬ nI 1 = 0 := by decide
  have n2 : ¬ nI 2 = 0 := by decide
  have n3 : ¬ nI 0 = nI 1 := by decide
  have n4 : ¬ nI 0 = nI 2 := by decide
  have n5 : ¬ nI 1 = nI 2 := by decide
  have n6 : ¬ nI 2 = nI 1 := by decide
  have z0 : nI 0 = 0 := rfl
  rcases (show t = 0 ∨ t = 1 ∨ t = 2 by omega) with rfl | rfl | rfl
  · rw [if_pos z0]
    by_cases c : wN w n 3 = 0
    · have d : nI (wN w n 3).toNat = 0 := by rw [n_eq0 (by omega)]; omega
      rw [if_pos d]
      obtain ⟨y1, y2, y3⟩ := say 2 1 (Or.inl ⟨rfl, rfl⟩) (by omega) (by unfold aEnd; rw [if_pos rfl, if_pos c])
      exact ⟨⟨⟨fun _ => ⟨someN, fun _ => ⟨y1, y2, trivial⟩, fun q => absurd d q⟩, fun q => absurd z0 q⟩, y3.1⟩, y3.2⟩
    · have d : ¬ nI (wN w n 3).toNat = 0 := by rw [n_eq0 (by omega)]; omega
      rw [if_neg d, if_neg n3, if_neg n4]
      have y := nil s rfl (by unfold aEnd; rw [if_pos rfl, if_neg c])
      exact ⟨⟨⟨fun _ => ⟨someN, fun q => absurd q d, fun _ => ⟨fun q => absurd q n3, fun _ => ⟨fun q => absurd q n4, fun _ => trivial⟩⟩⟩, fun q => absurd z0 q⟩, y.1⟩, y.2⟩
  · rw [if_neg n1, if_pos rfl]
    by_cases c : wN w n 3 = 1
    · have d : nI (wN w n 3).toNat = nI 1 := by rw [n_eq' (by omega) (by omega)]; omega
      rw [if_pos d]
      obtain ⟨y1, y2, y3⟩ := say 3 2 (Or.inr ⟨rfl, rfl⟩) (by omega) (by unfold aEnd; rw [if_neg (by decide), if_pos rfl, if_pos c])
      exact ⟨⟨⟨fun q => absurd q n1, fun _ => ⟨fun _ => ⟨someN, fun _ => ⟨y1, y2, trivial⟩, fun q => absurd d q⟩, fun q => absurd rfl q⟩⟩, y3.1⟩, y3.2⟩
    · have d : ¬ nI (wN w n 3).toNat = nI 1 := by rw [n_eq' (by omega) (by omega)]; omega
      rw [if_neg d, if_neg n5]
      have y := nil s rfl (by unfold aEnd; rw [if_neg (by decide), if_pos rfl, if_neg c])
      exact ⟨⟨⟨fun q => absurd q n1, fun _ => ⟨fun _ => ⟨someN, fun q => absurd q d, fun _ => ⟨fun q => absurd q n5, fun _ => trivial⟩⟩, fun q => absurd rfl q⟩⟩, y.1⟩, y.2⟩
  · rw [if_neg n2, if_neg n6, if_pos rfl]
    by_cases c : wN w n 2 < 15
    · have d : ¬ nI 15 ≤ nI (wN w n 2).toNat := by rw [n_le' (by omega) (by omega)]; omega
      rw [if_neg d, n_add]
      have e : aEnd w n T 2 = aBegin w n T ((wN w n 2).toNat + 1) := by
        unfold aEnd
        rw [if_neg (by decide), if_neg (by decide), if_pos c]
      have l := k.a.2.2.2.2
      obtain ⟨gb, gkb, -, -⟩ := gi.begin (r := (wN w n 2).toNat + 1) gk hn (by omega) (Or.inl (by omega)) (by have := l.1; omega) (by have := l.2.1; omega)
      have cp := h.pnd (i := (((wN w n 2).toNat + 1 : Nat) : Int)) hn hu
      rw [iI_n] at cp
      have x1 : m6 g H n s (csI s 18 (nd g n) (nI ((wN w n 2).toNat + 1))) := fun m _ _ => cI_other _ _ (Or.inl (by decide))
      have y := settle_P (r := (wN w n 2).toNat + 1) hN cp hn hl ⟨⟨G, gi⟩, gk, hu, h40 rfl, by omega, Or.inl (by omega), by have := l.1; omega, by have := l.2.1; omega⟩ hp gb gkb hpz
      rw [e]
      exact ⟨⟨⟨fun q => absurd q n2, fun _ => ⟨fun q => absurd q n6, fun _ => ⟨fun _ => ⟨someN, fun q => absurd q d, fun _ => trivial⟩, fun q => absurd rfl q⟩⟩⟩, y.1⟩, ⟨y.2.1, x1.trans y.2.2.1, y.2.2.2⟩⟩
    · have d : nI 15 ≤ nI (wN w n 2).toNat := by rw [n_le' (by omega) (by omega)]; omega
      rw [if_pos d]
      have y := nil s rfl (by unfold aEnd; rw [if_neg (by decide), if_neg (by decide), if_neg c])
      exact ⟨⟨⟨fun q => absurd q n2, fun _ => ⟨fun q => absurd q n6, fun _ => ⟨fun _ => ⟨someN, fun _ => trivial, fun q => absurd d q⟩, fun q => absurd rfl q⟩⟩⟩, y.1⟩, y.2⟩
end
end
