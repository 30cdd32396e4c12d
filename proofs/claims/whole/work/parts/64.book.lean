section
/-! ACCOUNTS: 0.. money, 16.. nonces, 32.. paid -/
abbrev Bk : Type := Nat → Int
def bU (k : Bk) (i : Nat) (v : Int) : Bk := fun j => if j = i then v else k j
theorem bU_s (k : Bk) (i : Nat) (v : Int) : bU k i v i = v := by unfold bU; rw [if_pos rfl]
theorem bU_o (k : Bk) {i j : Nat} (v : Int) (h : j ≠ i) : bU k i v j = k j := by unfold bU; rw [if_neg h]
def bPay (k : Bk) (f t a nc tp mk : Nat) : Bk × Bool := if k (16 + f) = nc ∧ ((a + tp : Nat) : Int) ≤ k f then (bU (bU (bU (bU k f (k f - a - tp)) t (bU k f (k f - a - tp) t + a)) mk (bU (bU k f (k f - a - tp)) t (bU k f (k f - a - tp) t + a) mk + tp)) (16 + f) (k (16 + f) + 1), true) else (k, false)
def bGv (x : Int) : Int := if x < 100 then x else 100
def bFine (k : Bk) (s mk : Nat) : Bk × Bool := if k (32 + s) = 0 then (bU (bU (bU k (32 + s) 1) s (k s - bGv (k s))) mk (bU (bU k (32 + s) 1) s (k s - bGv (k s)) mk + bGv (k s)), true) else (k, false)
def bEv (b : List Nat) (k : Bk) : Nat → Bk × Bool
  | 0 => (k, true)
  | j + 1 => if (bEv b k j).2 then bFine (bEv b k j).1 (bg b (evP b j)) (bg b 2) else bEv b k j
def bPy (b : List Nat) (k : Bk × Bool) : Nat → Bk × Bool
  | 0 => k
  | j + 1 => if (bPy b k j).2 then bPay (bPy b k j).1 (bg b (pyP b j)) (bg b (pyP b j + 1)) (tw b (pyP b j + 2)) (tw b (pyP b j + 4)) (bg b (pyP b j + 6)) (bg b 2) else bPy b k j
/-- a block's parts are done, as far as they can be -/
def bPl (k : Bk) (b : List Nat) : Bk × Bool := bPy b (bEv b k (bg b 100)) (bg b 99)
def smB (k : Bk) : Nat → Int
  | 0 => 0
  | n + 1 => smB k n + k n
def bkP (k : Bk) (s : Int) : Prop := (∀ a, a < 16 → 0 ≤ k a) ∧ smB k 16 = s ∧ (∀ a, a < 16 → 0 ≤ k (16 + a) ∧ k (16 + a) ≤ 65536) ∧ ∀ a, a < 16 → k (32 + a) = 0 ∨ k (32 + a) = 1
def bkOK (k : Bk) : Prop := bkP k 16000
theorem sm_out (k : Bk) {i : Nat} (v : Int) : ∀ n, n ≤ i → smB (bU k i v) n = smB k n
  | 0, _ => rfl
  | n + 1, h => by
    unfold smB
    rw [sm_out k v n (by omega), bU_o k v (by omega)]
theorem sm_up (k : Bk) {i : Nat} (v : Int) : ∀ n, i < n → smB (bU k i v) n = smB k n - k i + v
  | 0, h => absurd h (by omega)
  | n + 1, h => by
    unfold smB
    by_cases e : i = n
    · rw [← e, sm_out k v i (Nat.le_refl _), bU_s]
      omega
    · rw [sm_up k v n (by omega), bU_o k v (by omega)]
      omega
theorem sm_le (k : Bk) : ∀ n, (∀ a, a < n → 0 ≤ k a) → 0 ≤ smB k n ∧ ∀ i, i < n → k i ≤ smB k n
  | 0, _ => ⟨Int.le_refl _, fun i h => absurd h (by omega)⟩
  | n + 1, h => by
    obtain ⟨a, b⟩ := sm_le k n (fun a ha => h a (by omega))
    have := h n (by omega)
    unfold smB
    refine ⟨by omega, fun i hi => ?_⟩
    by_cases e : i = n
    · rw [e]; omega
    · have := b i (by omega)
      omega
theorem bkOK.le {k : Bk} (h : bkOK k) {a : Nat} (ha : a < 16) : 0 ≤ k a ∧ k a ≤ 16000 := by
  have := (sm_le k 16 h.1).2 a ha
  rw [h.2.1] at this
  exact ⟨h.1 a ha, this⟩
theorem bkP.m {k : Bk} {s v : Int} {i : Nat} (h : bkP k s) (hi : i < 16) (hv : 0 ≤ v) : bkP (bU k i v) (s - k i + v) := by
  obtain ⟨h1, h2, h3, h4⟩ := h
  refine ⟨fun a ha => ?_, by rw [sm_up _ _ _ hi, h2], fun a ha => ?_, fun a ha => ?_⟩
  · by_cases e : a = i
    · rw [e, bU_s]; exact hv
    · rw [bU_o _ _ e]; exact h1 a ha
  · rw [bU_o _ _ (by omega)]; exact h3 a ha
  · rw [bU_o _ _ (by omega)]; exact h4 a ha
theorem bkP.n {k : Bk} {s v : Int} {i : Nat} (h : bkP k s) (hv : 0 ≤ v ∧ v ≤ 65536) (hi : i < 16) : bkP (bU k (16 + i) v) s := by
  obtain ⟨h1, h2, h3, h4⟩ := h
  refine ⟨fun a ha => ?_, by rw [sm_out _ _ _ (by omega), h2], fun a ha => ?_, fun a ha => ?_⟩
  · rw [bU_o _ _ (by omega)]; exact h1 a ha
  · by_cases e : a = i
    · rw [e, bU_s]; exact hv
    · rw [bU_o _ _ (by omega)]; exact h3 a ha
  · rw [bU_o _ _ (by omega)]; exact h4 a ha
theorem bkP.p {k : Bk} {s v : Int} {i : Nat} (h : bkP k s) (hv : v = 0 ∨ v = 1) (hi : i < 16) : bkP (bU k (32 + i) v) s := by
  obtain ⟨h1, h2, h3, h4⟩ := h
  refine ⟨fun a ha => ?_, by rw [sm_out _ _ _ (by omega), h2], fun a ha => ?_, fun a ha => ?_⟩
  · rw [bU_o _ _ (by omega)]; exact h1 a ha
  · rw [bU_o _ _ (by omega)]; exact h3 a ha
  · by_cases e : a = i
    · rw [e, bU_s]; exact hv
    · rw [bU_o _ _ (by omega)]; exact h4 a ha
theorem bPay_ok {k : Bk} {f t a nc tp mk : Nat} (h : bkOK k) (hf : f < 16) (ht : t < 16) (hm : mk < 16) (hn : nc < 65536) : bkOK (bPay k f t a nc tp mk).1 := by
  unfold bPay
  by_cases c : k (16 + f) = nc ∧ ((a + tp : Nat) : Int) ≤ k f
  · rw [if_pos c]
    have h0 : bkP k 16000 := h
    have h1 := h0.m (v := k f - a - tp) hf (by omega)
    generalize bU k f (k f - a - tp) = k1 at h1 ⊢
    have h2 := h1.m (v := k1 t + a) ht (by have := h1.1 t ht; omega)
    generalize bU k1 t (k1 t + a) = k2 at h2 ⊢
    have h3 := h2.m (v := k2 mk + tp) hm (by have := h2.1 mk hm; omega)
    have h4 := h3.n (v := k (16 + f) + 1) (i := f) (by omega) hf
    have e : 16000 - k f + (k f - ↑a - ↑tp) - k1 t + (k1 t + ↑a) - k2 mk + (k2 mk + ↑tp) = 16000 := by omega
    rw [e] at h4
    exact h4
  · rw [if_neg c]; exact h
theorem bGv_le {x : Int} (h : 0 ≤ x) : 0 ≤ bGv x ∧ bGv x ≤ x := by
  unfold bGv
  split <;> omega
theorem bFine_ok {k : Bk} {s mk : Nat} (h : bkOK k) (hs : s < 16) (hm : mk < 16) : bkOK (bFine k s mk).1 := by
  unfold bFine
  by_cases c : k (32 + s) = 0
  · rw [if_pos c]
    have h0 : bkP k 16000 := h
    have gv := bGv_le (h0.1 s hs)
    have h1 := h0.p (v := 1) (i := s) (Or.inr rfl) hs
    have e1 : bU k (32 + s) 1 s = k s := bU_o _ _ (by omega)
    generalize bU k (32 + s) 1 = k1 at h1 e1 ⊢
    have h2 := h1.m (v := k s - bGv (k s)) hs (by omega)
    generalize bU k1 s (k s - bGv (k s)) = k2 at h2 ⊢
    have h3 := h2.m (v := k2 mk + bGv (k s)) hm (by have := h2.1 mk hm; omega)
    have e : 16000 - k1 s + (k s - bGv (k s)) - k2 mk + (k2 mk + bGv (k s)) = 16000 := by omega
    rw [e] at h3
    exact h3
  · rw [if_neg c]; exact h
theorem bEv_ok {T : Nat} {b : List Nat} {k : Bk} (h : bkOK k) (hb : blkWf T b) (hT : T ≤ 13) : ∀ j, j ≤ bg b 100 → bkOK (bEv b k j).1
  | 0, _ => h
  | j + 1, hj => by
    have ih := bEv_ok h hb hT j (by omega)
    have e := (hb.2.2.2.2.2.1 j (by omega)).2.1
    have m := hb.2.2.1
    unfold bEv
    by_cases c : (bEv b k j).2 = true
    · rw [if_pos c]; exact bFine_ok ih (by omega) (by omega)
    · rw [if_neg c]; exact ih
theorem bPy_ok {T : Nat} {b : List Nat} {k : Bk × Bool} (h : bkOK k.1) (hb : blkWf T b) (hB : isB b) (hT : T ≤ 13) : ∀ j, j ≤ bg b 99 → bkOK (bPy b k j).1
  | 0, _ => h
  | j + 1, hj => by
    have ih := bPy_ok h hb hB hT j (by omega)
    obtain ⟨_, e1, e2, _⟩ := hb.2.2.2.2.2.2.1 j (by omega)
    have m := hb.2.2.1
    unfold bPy
    by_cases c : (bPy b k j).2 = true
    · rw [if_pos c]; exact bPay_ok ih (by omega) (by omega) (by omega) (tw_lt hB _)
    · rw [if_neg c]; exact ih
theorem bPl_ok {T : Nat} {b : List Nat} {k : Bk} (h : bkOK k) (hb : blkWf T b) (hB : isB b) (hT : T ≤ 13) : bkOK (bPl k b).1 := bPy_ok (bEv_ok h hb hT _ (Nat.le_refl _)) hb hB hT _ (Nat.le_refl _)
theorem bEv_stop {b : List Nat} {k : Bk} {j : Nat} (h : (bEv b k j).2 = false) : ∀ d, bEv b k (j + d) = bEv b k j
  | 0 => rfl
  | d + 1 => by
    have ih := bEv_stop h d
    show (if (bEv b k (j + d)).2 then _ else bEv b k (j + d)) = _
    rw [ih, if_neg (by rw [h]; decide)]
theorem bPy_stop {b : List Nat} {k : Bk × Bool} {j : Nat} (h : (bPy b k j).2 = false) : ∀ d, bPy b k (j + d) = bPy b k j
  | 0 => rfl
  | d + 1 => by
    have ih := bPy_stop h d
    show (if (bPy b k (j + d)).2 then _ else bPy b k (j + d)) = _
    rw [ih, if_neg (by rw [h]; decide)]
theorem iI_sub (x y : Int) : iI x - iI y = iI (x - y) := (Int32.ofInt_sub x y).symm
/-! the reference's accounts to reckon with: rows 85, 86, 87 -/
def bkS (S : rS) (k : Bk) : Prop := ∀ a, a < 16 → S.2.1 85 a = iI (k a) ∧ S.2.1 86 a = iI (k (16 + a)) ∧ S.2.1 87 a = iI (k (32 + a))
theorem bkS.fr {L : List Nat} {S S1 : rS} {k : Bk} (h : bkS S k) (hf : rfr L S S1) (h1 : 85 ∉ L) (h2 : 86 ∉ L) (h3 : 87 ∉ L) : bkS S1 k := by
  unfold bkS
  rw [hf.a 85 h1, hf.a 86 h2, hf.a 87 h3]
  exact h
section
variable {N T : Nat} {S : rS} {k : Bk} {i : Nat} {v : Int}
theorem bkS.m (h : bkS S k) (hi : i < 16) : bkS (rsA S 85 i (iI v)) (bU k i v) := fun a ha => by
  obtain ⟨h1, h2, h3⟩ := h a ha
  rw [A_same, A_other _ _ _ (by decide), A_other _ _ _ (by decide), bU_o k v (by omega : 16 + a ≠ i), bU_o k v (by omega : 32 + a ≠ i)]
  by_cases e : a = i
  · rw [e, upd_same, bU_s]
    rw [e] at h2 h3
    exact ⟨rfl, h2, h3⟩
  · rw [upd_other _ _ e, bU_o k v e]
    exact ⟨h1, h2, h3⟩
theorem bkS.n (h : bkS S k) (hi : i < 16) : bkS (rsA S 86 i (iI v)) (bU k (16 + i) v) := fun a ha => by
  obtain ⟨h1, h2, h3⟩ := h a ha
  rw [A_same, A_other _ _ _ (by decide), A_other _ _ _ (by decide), bU_o k v (by omega : a ≠ 16 + i), bU_o k v (by omega : 32 + a ≠ 16 + i)]
  by_cases e : a = i
  · rw [e, upd_same, bU_s]
    rw [e] at h1 h3
    exact ⟨h1, rfl, h3⟩
  · rw [upd_other _ _ e, bU_o k v (by omega : 16 + a ≠ 16 + i)]
    exact ⟨h1, h2, h3⟩
theorem bkS.p (h : bkS S k) (hi : i < 16) : bkS (rsA S 87 i (iI v)) (bU k (32 + i) v) := fun a ha => by
  obtain ⟨h1, h2, h3⟩ := h a ha
  rw [A_same, A_other _ _ _ (by decide), A_other _ _ _ (by decide), bU_o k v (by omega : a ≠ 32 + i), bU_o k v (by omega : 16 + a ≠ 32 + i)]
  by_cases e : a = i
  · rw [e, upd_same, bU_s]
    rw [e] at h1 h2
    exact ⟨h1, h2, rfl⟩
  · rw [upd_other _ _ e, bU_o k v (by omega : 32 + a ≠ 32 + i)]
    exact ⟨h1, h2, h3⟩
theorem pay_ok {f t a nc tp mk : Nat} (h : bkS S k) (ok : bkOK k) (hf : f < 16) (ht : t < 16) (hm : mk < 16) (ha : a < 65536) (hn : nc < 65536) (hp : tp < 256) : wp (o_pay N S (nI f) (nI t) (nI a) (nI nc) (nI tp) (nI mk)) (f_pay N S (nI f) (nI t) (nI a) (nI nc) (nI tp) (nI mk)) (fun z => rfr [85, 86, 87] S z.2 ∧ bkS z.2 (bPay k f t a nc tp mk).1 ∧ z.1 = nI (if (bPay k f t a nc tp mk).2 then 1 else 0)) := by
  have l1 := ok.le hf
  have l2 := ok.2.2.1 f hf
  obtain ⟨h1, h2, h3⟩ := h f hf
  show wp (O_pay_0 N (nI f) (nI t) (nI a) (nI nc) (nI tp) (nI mk) S) (F_pay_0 N (nI f) (nI t) (nI a) (nI nc) (nI tp) (nI mk) S) _
  unfold O_pay_0 F_pay_0 bPay
  rw [n_clamp (by omega), n_clamp (by omega), h1, h2, ← iI_n nc, n_add, ← iI_n (a + tp)]
  refine wp_and ((n_in (by omega)).2 (by omega)) (wp_ite (fun c => ?_) (fun c => ?_)) <;> rw [iI_eq (by omega) (by omega) (by omega) (by omega)] at c
  · refine wp_and ((n_in (by omega)).2 (by omega)) (wp_ite (fun c2 => ?_) (fun c2 => ?_)) <;> rw [iI_le (by omega) (by omega) (by omega) (by omega)] at c2
    · rw [if_pos ⟨c, c2⟩]
      refine wp_and ((n_in (by omega)).2 (by omega)) (wp_and ((n_in (by omega)).2 (by omega)) (wp_and ((n_in (by omega)).2 (by omega)) (wp_and ((n_in (by omega)).2 (by omega)) ?_)))
      have e1 : iI (k f) - nI a - nI tp = iI (k f - a - tp) := by rw [← iI_n a, ← iI_n tp, iI_sub, iI_sub]
      rw [e1]
      have b1 := h.m (v := k f - a - tp) hf
      rw [(b1 t ht).1, ← iI_n a, iI_add]
      have b2 := b1.m (v := bU k f (k f - a - tp) t + a) ht
      have f2 : rfr [85, 86, 87] S (rsA (rsA S 85 f (iI (k f - a - tp))) 85 t (iI (bU k f (k f - a - tp) t + a))) := (rfr.one (by decide)).trans (rfr.one (by decide))
      generalize rsA (rsA S 85 f (iI (k f - a - tp))) 85 t (iI (bU k f (k f - a - tp) t + a)) = S2 at b2 f2 ⊢
      unfold O_pay_57 F_pay_57
      rw [n_clamp (by omega), n_clamp (by omega), (b2 mk hm).1, ← iI_n tp, iI_add]
      have b3 := b2.m (v := bU (bU k f (k f - a - tp)) t (bU k f (k f - a - tp) t + a) mk + tp) hm
      rw [(b3 f hf).2.1, bU_o _ _ (by omega : 16 + f ≠ mk), bU_o _ _ (by omega : 16 + f ≠ t), bU_o _ _ (by omega : 16 + f ≠ f), ← iI_n 1, iI_add]
      have b4 := b3.n (v := k (16 + f) + 1) hf
      exact wp_and ((n_in (by omega)).2 (by omega)) (wp_and ((n_in (by omega)).2 (by omega)) (wp_and ((n_in (by omega)).2 (by omega)) (wp_and ((n_in (by omega)).2 (by omega)) (wp_fin trivial ⟨(f2.trans (rfr.one (by decide))).trans (rfr.one (by decide)), b4, rfl⟩))))
    · rw [if_neg (fun z => c2 z.2)]
      exact wp_fin trivial ⟨rfr.refl, h, rfl⟩
  · rw [if_neg (fun z => c z.1)]
    exact wp_fin trivial ⟨rfr.refl, h, rfl⟩
theorem fine_ok {s mk : Nat} (h : bkS S k) (ok : bkOK k) (hs : s < 16) (hm : mk < 16) : wp (o_fine N S (nI s) (nI mk)) (f_fine N S (nI s) (nI mk)) (fun z => rfr [85, 86, 87] S z.2 ∧ bkS z.2 (bFine k s mk).1 ∧ z.1 = nI (if (bFine k s mk).2 then 1 else 0)) := by
  have l1 := ok.le hs
  obtain ⟨h1, h2, h3⟩ := h s hs
  have l3 := ok.2.2.2 s hs
  show wp (O_fine_0 N (nI s) (nI mk) S) (F_fine_0 N (nI s) (nI mk) S) _
  unfold O_fine_0 F_fine_0 bFine
  rw [n_clamp (by omega), h3]
  refine wp_and ((n_in (by omega)).2 (by omega)) (wp_ite (fun c => ?_) (fun c => ?_)) <;> rw [show (0 : Int32) = iI 0 from rfl, iI_eq (by omega) (by omega) (by omega) (by omega)] at c
  · rw [if_pos c]
    refine wp_and ((n_in (by omega)).2 (by omega)) (wp_and ((n_in (by omega)).2 (by omega)) ?_)
    have b1 := h.p (v := 1) hs
    have f1 : rfr [85, 86, 87] S (rsA S 87 s (nI 1)) := rfr.one (by decide)
    have b1 : bkS (rsA S 87 s (nI 1)) (bU k (32 + s) 1) := b1
    have e85 := (b1 s hs).1
    rw [bU_o _ _ (by omega : s ≠ 32 + s)] at e85
    generalize rsA S 87 s (nI 1) = S1 at b1 f1 e85 ⊢
    have go : ∀ x : Int32, x = iI (bGv (k s)) → wp (O_fine_40 N (nI s) (nI mk) x S1) (F_fine_40 N (nI s) (nI mk) x S1) (fun z => rfr [85, 86, 87] S z.2 ∧ bkS z.2 (bU (bU (bU k (32 + s) 1) s (k s - bGv (k s))) mk (bU (bU k (32 + s) 1) s (k s - bGv (k s)) mk + bGv (k s)), true).1 ∧ z.1 = nI (if (bU (bU (bU k (32 + s) 1) s (k s - bGv (k s))) mk (bU (bU k (32 + s) 1) s (k s - bGv (k s)) mk + bGv (k s)), true).2 = true then 1 else 0)) := by
      rintro x rfl
      unfold O_fine_40 F_fine_40
      rw [n_clamp (by omega), n_clamp (by omega), e85, iI_sub]
      have b2 := b1.m (v := k s - bGv (k s)) hs
      rw [(b2 mk hm).1, iI_add]
      have b3 := b2.m (v := bU (bU k (32 + s) 1) s (k s - bGv (k s)) mk + bGv (k s)) hm
      exact wp_and ((n_in (by omega)).2 (by omega)) (wp_and ((n_in (by omega)).2 (by omega)) (wp_and ((n_in (by omega)).2 (by omega)) (wp_and ((n_in (by omega)).2 (by omega)) (wp_fin trivial ⟨(f1.trans (rfr.one (by decide))).trans (rfr.one (by decide)), b3, rfl⟩))))
    rw [e85]
    refine wp_ite (fun c2 => ?_) (fun c2 => ?_) <;> rw [← iI_n 100, iI_le (by omega) (by omega) (by omega) (by omega)] at c2
    · exact go _ (by unfold bGv; rw [if_neg (by omega)]; rfl)
    · exact wp_and ((n_in (by omega)).2 (by omega)) (go _ (by unfold bGv; rw [if_pos (by omega)]))
  · rw [if_neg c]
    exact wp_fin trivial ⟨rfr.refl, h, rfl⟩
theorem byte_at {p i : Nat} {b : List Nat} (hp : p < 1354) (hw : wB S p b) (hl : b.length ≤ 691) (hi : i < b.length) : o_blockByte N S (nI p) (nI i) ∧ f_blockByte N S (nI p) (nI i) = nI (bg b i) := by
  obtain ⟨a1, a2⟩ := blockByte_ok (N := N) (S := S) (p := p) (i := i) hp (by omega)
  exact ⟨a1, a2.trans (hw i hi)⟩
theorem proofBytes_ok {p i : Nat} {b : List Nat} (hp : p < 1354) (hw : wB S p b) (hl : b.length ≤ 691) (hB : isB b) (hi : i + 5 < b.length) : o_proofBytes N S (nI p) (nI i) ∧ f_proofBytes N S (nI p) (nI i) = nI (evSz b i) := by
  obtain ⟨a1, a2⟩ := byte_at (N := N) hp hw hl hi
  have t := hB (i + 5)
  show wp (O_proofBytes_0 N (nI p) (nI i) S) (F_proofBytes_0 N (nI p) (nI i) S) (fun v => v = nI (evSz b i))
  unfold O_proofBytes_0 F_proofBytes_0 evSz
  rw [n_add, a2]
  refine wp_and a1 (wp_ite (fun c => ?_) (fun c => ?_)) <;> rw [n_eq' (by omega) (by omega)] at c
  · rw [if_pos c]; exact wp_fin trivial rfl
  · rw [if_neg c]; exact wp_fin trivial rfl
theorem doParts_ok {p : Nat} {b : List Nat} (hp : p < 1354) (hw : wB S p b) (hb : blkWf T b) (hB : isB b) (hT : T ≤ 13) (hN : 1000 ≤ N) (h : bkS S k) (ok : bkOK k) : wp (o_doParts N S (nI p)) (f_doParts N S (nI p)) (fun z => rfr [85, 86, 87] S z.2 ∧ bkS z.2 (bPl k b).1 ∧ z.1 = nI (if (bPl k b).2 then 1 else 0)) := by
  have hl := hb.len
  have hW : ∀ {x : rS}, rfr [85, 86, 87] S x → wB x p b := fun f i hi => by rw [f.l 12 (by decide)]; exact hw i hi
  have t100 := hb.2.2.2.2.1
  have t99 := hb.2.2.2.1
  have t2 := hb.2.2.1
  have hlen := hb.2.2.2.2.2.2.2.1
  have hEP := evP_le b
  have hev := hb.2.2.2.2.2.1
  have hpy := hb.2.2.2.2.2.2.1
  show wp (O_doParts_0 N (nI p) S) (F_doParts_0 N (nI p) S) _
  unfold O_doParts_0 F_doParts_0
  refine wp_seq (Q := fun z : Nat × Int32 × Int32 × Int32 × rS => ∃ x : Int32, z = (0, nI p, x, nI (if (bEv b k (bg b 100)).2 then 1 else 0), z.2.2.2.2) ∧ rfr [85, 86, 87] S z.2.2.2.2 ∧ bkS z.2.2.2.2 (bEv b k (bg b 100)).1 ∧ ((bEv b k (bg b 100)).2 = true → x = nI (evP b (bg b 100)))) ?_ ?_
  · refine wp_loop (K := bg b 100) (fun j x => rfr [85, 86, 87] S x ∧ bkS x (bEv b k j).1) (fun n j x => OL_doParts_8 N n (nI p) (nI (evP b j)) (nI (if (bEv b k j).2 then 1 else 0)) (nI j) x) (fun n j x => L_doParts_8 N n (nI p) (nI (evP b j)) (nI (if (bEv b k j).2 then 1 else 0)) (nI j) x) (fun n j x hj hI ih => ?_) 0 N S (by omega) (by omega) ⟨rfr.refl, h⟩
    have wx := hW hI.1
    obtain ⟨a1, a2⟩ := byte_at (N := N) hp wx hl.2 (by omega : 100 < b.length)
    have a2' : f_proofsOf N x (nI p) = nI (bg b 100) := a2
    have tb := hB 100
    unfold OL_doParts_8 L_doParts_8 OB_doParts_8 B_doParts_8
    rw [a2']
    refine wp_and ⟨a1, trivial⟩ ?_
    by_cases e : j = bg b 100
    · refine wp_pos (by rw [n_le' (by omega) (by omega)]; omega) ?_
      subst e
      exact wp_fin trivial ⟨_, rfl, hI.1, hI.2, fun _ => rfl⟩
    · refine wp_neg (by rw [n_le' (by omega) (by omega)]; omega) ?_
      by_cases cg : (bEv b k j).2 = true
      · rw [if_pos cg]
        refine wp_neg (by decide) ?_
        obtain ⟨ee1, ee2⟩ : evP b j + 39 ≤ b.length ∧ bg b (evP b j) < T := ⟨(hev j (by omega)).1, (hev j (by omega)).2.1⟩
        obtain ⟨c1, c2⟩ := byte_at (N := N) hp wx hl.2 (by omega : evP b j < b.length)
        obtain ⟨d1, d2⟩ := byte_at (N := N) hp wx hl.2 (by omega : 2 < b.length)
        have d2' : f_makerOf N x (nI p) = nI (bg b 2) := d2
        rw [c2, d2']
        refine wp_and c1 (wp_and ⟨d1, trivial⟩ (wp_call (fine_ok hI.2 (bEv_ok ok hb hT j (by omega)) (by omega) (by omega)) (fun q => ?_)))
        obtain ⟨q1, q2, q3⟩ := q
        generalize f_fine N x (nI (bg b (evP b j))) (nI (bg b 2)) = y at q1 q2 q3 ⊢
        have fy := hI.1.trans q1
        obtain ⟨g1, g2⟩ := proofBytes_ok (N := N) hp (hW fy) hl.2 hB (by omega : evP b j + 5 < b.length)
        unfold O_doParts_37 F_doParts_37
        rw [g2, q3, n_add, n_add]
        have eb : bEv b k (j + 1) = bFine (bEv b k j).1 (bg b (evP b j)) (bg b 2) := by
          show (if (bEv b k j).2 then _ else _) = _
          rw [if_pos cg]
        have := ih y.2 ⟨fy, by rw [eb]; exact q2⟩ (by omega)
        rw [eb] at this
        exact wp_and g1 this
      · have cf : (bEv b k j).2 = false := by simpa using cg
        have es := bEv_stop cf (bg b 100 - j)
        rw [show j + (bg b 100 - j) = bg b 100 by omega] at es
        rw [if_neg cg]
        refine wp_pos rfl (wp_fin trivial ⟨nI (evP b j), ?_, hI.1, by rw [es]; exact hI.2, fun z => absurd z (by rw [es]; exact cg)⟩)
        rw [es, if_neg cg]
  · rintro z ⟨x2, z0, z1, z2, z3⟩
    rw [z0]
    generalize z.2.2.2.2 = S2 at z1 z2 ⊢
    show wp (O_doParts_53 N (nI p) x2 (nI (if (bEv b k (bg b 100)).2 then 1 else 0)) S2) (F_doParts_53 N (nI p) x2 (nI (if (bEv b k (bg b 100)).2 then 1 else 0)) S2) _
    unfold O_doParts_53 F_doParts_53
    refine wp_seq (Q := fun z : Nat × Int32 × rS => z.2.1 = nI (if (bPl k b).2 then 1 else 0) ∧ rfr [85, 86, 87] S z.2.2 ∧ bkS z.2.2 (bPl k b).1) ?_ ?_
    · have k0 := bEv_ok ok hb hT _ (Nat.le_refl _)
      refine wp_loop (K := bg b 99) (fun j (y : rS × Int32) => rfr [85, 86, 87] S y.1 ∧ bkS y.1 (bPy b (bEv b k (bg b 100)) j).1 ∧ ((bPy b (bEv b k (bg b 100)) j).2 = true → y.2 = nI (pyP b j))) (fun n j y => OL_doParts_56 N n (nI p) y.2 (nI (if (bPy b (bEv b k (bg b 100)) j).2 then 1 else 0)) (nI j) y.1) (fun n j y => L_doParts_56 N n (nI p) y.2 (nI (if (bPy b (bEv b k (bg b 100)) j).2 then 1 else 0)) (nI j) y.1) (fun n j y hj hI ih => ?_) 0 N (S2, x2) (by omega) (by omega) ⟨z1, z2, z3⟩
      obtain ⟨i1, i2, i3⟩ := hI
      have wx := hW i1
      obtain ⟨a1, a2⟩ := byte_at (N := N) hp wx hl.2 (by omega : 99 < b.length)
      have a2' : f_paymentsOf N y.1 (nI p) = nI (bg b 99) := a2
      have tb := hB 99
      unfold OL_doParts_56 L_doParts_56 OB_doParts_56 B_doParts_56
      rw [a2']
      refine wp_and ⟨a1, trivial⟩ ?_
      by_cases e : j = bg b 99
      · refine wp_pos (by rw [n_le' (by omega) (by omega)]; omega) (wp_fin trivial ⟨?_, i1, ?_⟩)
        · rw [e]; rfl
        · rw [e] at i2; exact i2
      · refine wp_neg (by rw [n_le' (by omega) (by omega)]; omega) ?_
        by_cases cg : (bPy b (bEv b k (bg b 100)) j).2 = true
        · rw [if_pos cg]
          refine wp_neg (by decide) ?_
          rw [i3 cg]
          obtain ⟨ee1, ee2, ee3, ee4, ee5, ee6, ee7, ee8⟩ := hpy j (by omega)
          obtain ⟨c1, c2⟩ := byte_at (N := N) hp wx hl.2 (by omega : pyP b j < b.length)
          obtain ⟨c3, c4⟩ := byte_at (N := N) hp wx hl.2 (by omega : pyP b j + 1 < b.length)
          obtain ⟨c5, c6⟩ := byte_at (N := N) hp wx hl.2 (by omega : pyP b j + 2 < b.length)
          obtain ⟨c7, c8⟩ := byte_at (N := N) hp wx hl.2 (by omega : pyP b j + 3 < b.length)
          obtain ⟨c9, c10⟩ := byte_at (N := N) hp wx hl.2 (by omega : pyP b j + 4 < b.length)
          obtain ⟨c11, c12⟩ := byte_at (N := N) hp wx hl.2 (by omega : pyP b j + 5 < b.length)
          obtain ⟨c13, c14⟩ := byte_at (N := N) hp wx hl.2 (by omega : pyP b j + 6 < b.length)
          obtain ⟨d1, d2⟩ := byte_at (N := N) hp wx hl.2 (by omega : 2 < b.length)
          have d2' : f_makerOf N y.1 (nI p) = nI (bg b 2) := d2
          simp only [n_add]
          rw [c2, c4, c6, c8, c10, c12, c14, d2', n_two (hB _) (hB _), n_two (hB _) (hB _)]
          have w1 := tw_lt hB (pyP b j + 2)
          have w2 := tw_lt hB (pyP b j + 4)
          refine wp_and c1 (wp_and c3 (wp_and c5 (wp_and c7 (wp_and c9 (wp_and c11 (wp_and c13 (wp_and ⟨d1, trivial⟩ (wp_call (pay_ok (a := tw b (pyP b j + 2)) (nc := tw b (pyP b j + 4)) i2 (bPy_ok k0 hb hB hT j (by omega)) (by omega) (by omega) (by omega) w1 w2 (hB _)) (fun q => ?_)))))))))
          obtain ⟨q1, q2, q3⟩ := q
          have q3' : (f_pay N y.1 (nI (bg b (pyP b j))) (nI (bg b (pyP b j + 1))) (nI (256 * bg b (pyP b j + 2) + bg b (pyP b j + 3))) (nI (256 * bg b (pyP b j + 4) + bg b (pyP b j + 5))) (nI (bg b (pyP b j + 6))) (nI (bg b 2))).1 = _ := q3
          have q2' : bkS (f_pay N y.1 (nI (bg b (pyP b j))) (nI (bg b (pyP b j + 1))) (nI (256 * bg b (pyP b j + 2) + bg b (pyP b j + 3))) (nI (256 * bg b (pyP b j + 4) + bg b (pyP b j + 5))) (nI (bg b (pyP b j + 6))) (nI (bg b 2))).2 _ := q2
          have q1' : rfr [85, 86, 87] y.1 (f_pay N y.1 (nI (bg b (pyP b j))) (nI (bg b (pyP b j + 1))) (nI (256 * bg b (pyP b j + 2) + bg b (pyP b j + 3))) (nI (256 * bg b (pyP b j + 4) + bg b (pyP b j + 5))) (nI (bg b (pyP b j + 6))) (nI (bg b 2))).2 := q1
          generalize f_pay N y.1 (nI (bg b (pyP b j))) (nI (bg b (pyP b j + 1))) (nI (256 * bg b (pyP b j + 2) + bg b (pyP b j + 3))) (nI (256 * bg b (pyP b j + 4) + bg b (pyP b j + 5))) (nI (bg b (pyP b j + 6))) (nI (bg b 2)) = u at q1' q2' q3' ⊢
          unfold O_doParts_142 F_doParts_142
          rw [q3', n_add, n_add]
          have eb : bPy b (bEv b k (bg b 100)) (j + 1) = bPay (bPy b (bEv b k (bg b 100)) j).1 (bg b (pyP b j)) (bg b (pyP b j + 1)) (tw b (pyP b j + 2)) (tw b (pyP b j + 4)) (bg b (pyP b j + 6)) (bg b 2) := by
            show (if (bPy b (bEv b k (bg b 100)) j).2 then _ else _) = _
            rw [if_pos cg]
          have := ih (u.2, nI (pyP b j + 7)) ⟨i1.trans q1', by rw [eb]; exact q2', fun _ => by show _ = nI (evP b (bg b 100) + 7 * (j + 1)); congr 1⟩ (by omega)
          rw [eb] at this
          exact this
        · have cf : (bPy b (bEv b k (bg b 100)) j).2 = false := by simpa using cg
          have es := bPy_stop cf (bg b 99 - j)
          rw [show j + (bg b 99 - j) = bg b 99 by omega] at es
          have es2 : bPl k b = bPy b (bEv b k (bg b 100)) j := es
          rw [if_neg cg]
          refine wp_pos rfl (wp_fin trivial ⟨?_, i1, by rw [es2]; exact i2⟩)
          rw [es2, if_neg cg]
    · rintro z ⟨y0, y1, y2⟩
      show wp (O_doParts_154 N z.2.1 z.2.2) (F_doParts_154 N z.2.1 z.2.2) _
      unfold O_doParts_154 F_doParts_154
      rw [y0]
      refine wp_fin ?_ ⟨y1, y2, rfl⟩
      split <;> rfl
end
end
