section
/-! THE REFERENCE RISES, DECIDES -/
section
variable {N n F H T : Nat} {S : rS} {w : Wd} {x2 : Nat} {d : List Nat} {k : Bk}
def aRise (w : Wd) (n T x2 : Nat) (d : List Nat) (k : Bk) : Wd := if 40 < x2 then aLift w n x2 d k else aBegin (aLift w n x2 d k) n T 0
theorem notBeen_ok (hn : n < 13) : wp (o_notBeen N S (nI n)) (f_notBeen N S (nI n)) (fun S' => S' = rsA (rsA (rsA S 49 n (nI 0)) 50 n (nI 0)) 51 n (nI 0)) := by
  show wp (O_notBeen_0 N (nI n) S) (F_notBeen_0 N (nI n) S) _
  unfold O_notBeen_0 F_notBeen_0 O_notBeen_14 F_notBeen_14
  rw [n_clamp (by omega)]
  exact wp_fin ⟨((n_in (by omega)).2 (by omega)), ((n_in (by omega)).2 (by omega)), ((n_in (by omega)).2 (by omega)), trivial⟩ rfl
theorem unlock_ok (hn : n < 13) : wp (o_unlock N S (nI n)) (f_unlock N S (nI n)) (fun S' => S' = rsA (rsA (rsA (rsA S 14 (1118 + n) (nI 0)) 14 (1131 + n) (nI 0)) 47 n (-1)) 48 n (-1)) := by
  show wp (O_unlock_0 N (nI n) S) (F_unlock_0 N (nI n) S) _
  unfold O_unlock_0 F_unlock_0
  rw [n_add]
  refine wp_call (clear_ok (by omega)) (fun q1 => ?_)
  rw [q1]
  unfold O_unlock_9 F_unlock_9
  rw [n_add]
  refine wp_call (clear_ok (by omega)) (fun q2 => ?_)
  rw [q2]
  unfold O_unlock_18 F_unlock_18
  rw [n_clamp (by omega)]
  exact wp_fin ⟨((n_in (by omega)).2 (by omega)), ((n_in (by omega)).2 (by omega)), trivial⟩ rfl
theorem rise_ok (hN : 1000 ≤ N) (h0 : rR0 F H T S w) (hn : n < H) (h1 : 0 ≤ wN w n 1 ∧ wN w n 1 ≤ 41) (hx : x2 ≤ 41) (hk : jK T H S (wN (aLift w n x2 d k)) (wY (aLift w n x2 d k))) (hc : 0 ≤ wN w n 12 ∧ wN w n 12 ≤ 1000) (hpl : ∀ q, q < (wP w n).length → bg (pg (wP w n) q) 0 < 16 ∧ bg (pg (wP w n) q) 1 < 16) : wp (o_rise N S (nI n) (nI x2)) (f_rise N S (nI n) (nI x2)) (fun S' => rRp F H T S' (aRise w n T x2 d k)) := by
  have cb := h0.1.1.b
  obtain ⟨h, hh⟩ : ∃ h, (wN w n 1).toNat = h := ⟨_, rfl⟩
  have h41 : h ≤ 41 := by omega
  have e44 : S.2.1 44 n = nI h := by
    have := h0.2.2.1.at_ hn 1 (by decide) (by decide)
    rw [← Int.toNat_of_nonneg h1.1, iI_n, hh] at this
    exact this
  show wp (O_rise_0 N (nI n) (nI x2) S) (F_rise_0 N (nI n) (nI x2) S) _
  unfold O_rise_0 F_rise_0
  rw [n_clamp (by omega), e44]
  refine wp_and ((n_in (by omega)).2 (by omega)) (wp_call (forgetHeight_ok (by omega) (by omega) (by omega)) (fun q1 => ?_))
  generalize f_forgetHeight N S (nI n) (nI h) = S1 at q1 ⊢
  have main : ∀ S2 : rS, rfr [14, 60] S S2 → (∀ x, (inHd n (h % 2) x ∨ (h + 1 < x2 ∧ inHd n ((h + 1) % 2) x) → S2.2.1 14 x = nI 0) ∧ (¬ (inHd n (h % 2) x ∨ (h + 1 < x2 ∧ inHd n ((h + 1) % 2) x)) → S2.2.1 14 x = S.2.1 14 x)) → (∀ x, (inVt n (h % 2) x ∨ (h + 1 < x2 ∧ inVt n ((h + 1) % 2) x) → S2.2.1 60 x = nI 0) ∧ (¬ (inVt n (h % 2) x ∨ (h + 1 < x2 ∧ inVt n ((h + 1) % 2) x)) → S2.2.1 60 x = S.2.1 60 x)) → wp (O_rise_36 N (nI n) (nI x2) S2) (F_rise_36 N (nI n) (nI x2) S2) (fun S' => rRp F H T S' (aRise w n T x2 d k)) := by
    intro S2 f2 a14 a60
    unfold O_rise_36 F_rise_36
    refine wp_call (forgetSaid_ok (by omega) (by omega)) (fun q3 => ?_)
    generalize f_forgetSaid N S2 (nI n) = S3 at q3 ⊢
    unfold O_rise_41 F_rise_41
    rw [n_clamp (by omega)]
    refine wp_and ((n_in (by omega)).2 (by omega)) (wp_and ((n_in (by omega)).2 (by omega)) ?_)
    unfold O_rise_55 F_rise_55
    rw [n_clamp (by omega)]
    refine wp_and ((n_in (by omega)).2 (by omega)) (wp_call (unlock_ok (by omega)) (fun q5 => ?_))
    rw [q5]
    clear q5
    unfold O_rise_67 F_rise_67
    obtain ⟨S5, e5⟩ : ∃ S5, S5 = rsA (rsA (rsA (rsA (rsA (rsA (rsA S3 44 n (nI x2)) 65 n (nI 0)) 78 n (nI 0)) 14 (1118 + n) (nI 0)) 14 (1131 + n) (nI 0)) 47 n (-1)) 48 n (-1) := ⟨_, rfl⟩
    rw [← e5]
    refine wp_call (noTimers_ok (by omega) (by omega)) (fun q6 => ?_)
    generalize f_noTimers N S5 (nI n) = S6 at q6 ⊢
    unfold O_rise_72 F_rise_72
    rw [n_clamp (by omega)]
    refine wp_and ((n_in (by omega)).2 (by omega)) (wp_and ((n_in (by omega)).2 (by omega)) ?_)
    unfold O_rise_86 F_rise_86
    obtain ⟨S7, e7⟩ : ∃ S7, S7 = rsA (rsA S6 45 n (nI 0)) 46 n (nI 0) := ⟨_, rfl⟩
    rw [← e7]
    refine wp_call (notBeen_ok (by omega)) (fun q8 => ?_)
    generalize f_notBeen N S7 (nI n) = S9 at q8 ⊢
    have f5 : rfr [14, 44, 47, 48, 65, 78] S3 S5 := by
      rw [e5]
      exact ((((((rfr.one (by decide)).trans (rfr.one (by decide))).trans (rfr.one (by decide))).trans (rfr.one (by decide))).trans (rfr.one (by decide))).trans (rfr.one (by decide))).trans (rfr.one (by decide))
    have f7 : rfr [45, 46] S6 S7 := by rw [e7]; exact (rfr.one (by decide)).trans (rfr.one (by decide))
    have f9 : rfr [49, 50, 51] S7 S9 := by rw [q8]; exact ((rfr.one (by decide)).trans (rfr.one (by decide))).trans (rfr.one (by decide))
    have f69 : rfr [45, 46, 49, 50, 51] S6 S9 := (f7.mono (by decide)).trans (f9.mono (by decide))
    have f59 : rfr [45, 46, 49, 50, 51, 52] S5 S9 := (q6.1.mono (by decide)).trans (f69.mono (by decide))
    have f03 : rfr [14, 60] S S3 := f2.trans (q3.1.mono (by decide))
    have f : rfr liL S S9 := ((f03.mono (by decide)).trans (f5.mono (by decide))).trans (f59.mono (by decide))
    have R : rRp F H T S9 (aLift w n x2 d k) := by
      refine lift_ok h0 hn hh hk f ?_ ?_ ?_ ?_ ?_ ?_ ?_ ?_ ?_ ?_ ?_ (fun x => ?_) (fun x => ?_)
      · rw [f59.a 44 (by decide), e5, A_other _ _ _ (by decide), A_other _ _ _ (by decide), A_other _ _ _ (by decide), A_other _ _ _ (by decide), A_other _ _ _ (by decide), A_other _ _ _ (by decide), A_same, f03.a 44 (by decide)]
      · rw [f9.a 45 (by decide), e7, A_other _ _ _ (by decide), A_same, q6.1.a 45 (by decide), f5.a 45 (by decide), f03.a 45 (by decide)]
      · rw [f9.a 46 (by decide), e7, A_same, A_other _ _ _ (by decide), q6.1.a 46 (by decide), f5.a 46 (by decide), f03.a 46 (by decide)]
      · rw [f59.a 47 (by decide), e5, A_other _ _ _ (by decide), A_same, A_other _ _ _ (by decide), A_other _ _ _ (by decide), A_other _ _ _ (by decide), A_other _ _ _ (by decide), A_other _ _ _ (by decide), f03.a 47 (by decide)]
      · rw [f59.a 48 (by decide), e5, A_same, A_other _ _ _ (by decide), A_other _ _ _ (by decide), A_other _ _ _ (by decide), A_other _ _ _ (by decide), A_other _ _ _ (by decide), A_other _ _ _ (by decide), f03.a 48 (by decide)]
      · rw [q8, A_other _ _ _ (by decide), A_other _ _ _ (by decide), A_same, f7.a 49 (by decide), q6.1.a 49 (by decide), f5.a 49 (by decide), f03.a 49 (by decide)]
      · rw [q8, A_other _ _ _ (by decide), A_same, A_other _ _ _ (by decide), f7.a 50 (by decide), q6.1.a 50 (by decide), f5.a 50 (by decide), f03.a 50 (by decide)]
      · rw [q8, A_same, A_other _ _ _ (by decide), A_other _ _ _ (by decide), f7.a 51 (by decide), q6.1.a 51 (by decide), f5.a 51 (by decide), f03.a 51 (by decide)]
      · intro x
        rw [f69.a 52 (by decide), q6.2 x, f5.a 52 (by decide), f03.a 52 (by decide)]
      · rw [f59.a 65 (by decide), e5, A_other _ _ _ (by decide), A_other _ _ _ (by decide), A_other _ _ _ (by decide), A_other _ _ _ (by decide), A_other _ _ _ (by decide), A_same, A_other _ _ _ (by decide), f03.a 65 (by decide)]
      · rw [f59.a 78 (by decide), e5, A_other _ _ _ (by decide), A_other _ _ _ (by decide), A_other _ _ _ (by decide), A_other _ _ _ (by decide), A_same, A_other _ _ _ (by decide), A_other _ _ _ (by decide), f03.a 78 (by decide)]
      · have e14 : S9.2.1 14 x = if x = 1131 + n then nI 0 else if x = 1118 + n then nI 0 else S3.2.1 14 x := by
          rw [f59.a 14 (by decide), e5, A_other _ _ _ (by decide), A_other _ _ _ (by decide), A_same, A_same, A_other _ _ _ (by decide), A_other _ _ _ (by decide), A_other _ _ _ (by decide)]
          by_cases c1 : x = 1131 + n
          · rw [if_pos c1, c1, upd_same]
          · rw [if_neg c1, upd_other _ _ c1]
            by_cases c2 : x = 1118 + n
            · rw [if_pos c2, c2, upd_same]
            · rw [if_neg c2, upd_other _ _ c2]
        rw [e14]
        by_cases c1 : x = 1131 + n
        · rw [if_pos c1]
          exact ⟨fun _ => rfl, fun z => absurd (Or.inr (Or.inr (Or.inr (Or.inr c1)))) z⟩
        · rw [if_neg c1]
          by_cases c2 : x = 1118 + n
          · rw [if_pos c2]
            exact ⟨fun _ => rfl, fun z => absurd (Or.inr (Or.inr (Or.inr (Or.inl c2)))) z⟩
          · rw [if_neg c2]
            by_cases c3 : 416 + 13 * n ≤ x ∧ x < 416 + 13 * n + 13
            · exact ⟨fun _ => (q3.2 x).1 c3, fun z => absurd (Or.inr (Or.inr (Or.inl c3))) z⟩
            · rw [(q3.2 x).2 c3]
              refine ⟨fun z => (a14 x).1 ?_, fun z => (a14 x).2 (fun y => z ?_)⟩
              · rcases z with z | z | z | z | z
                · exact Or.inl z
                · exact Or.inr z
                · exact absurd z c3
                · exact absurd z c2
                · exact absurd z c1
              · rcases y with y | y
                · exact Or.inl y
                · exact Or.inr (Or.inl y)
      · rw [f59.a 60 (by decide), f5.a 60 (by decide), q3.1.a 60 (by decide)]
        exact a60 x
    have fin : wp (O_rise_91 N (nI n) (nI x2) S9) (F_rise_91 N (nI n) (nI x2) S9) (fun S' => rRp F H T S' (aRise w n T x2 d k)) := by
      unfold O_rise_91 F_rise_91 aRise
      refine wp_ite (fun c => ?_) (fun c => ?_) <;> rw [n_lt' (by omega) (by omega)] at c
      · rw [if_pos c]
        exact wp_fin trivial R
      · rw [if_neg c]
        refine wp_call (begin_ok (i := 0) hN R hn (by omega) ?_ ?_ ?_ ?_ ?_ (by omega) hpl (fun j y hj => absurd hj (by omega))) (fun q => wp_fin trivial q)
        · rw [aLift_1]; omega
        · rw [aLift_m (by omega)]; omega
        · rw [aLift_N (by omega)]; exact hc
        · rw [aLift_0 (by omega)]; omega
        · rw [aLift_0 (by omega)]; rfl
    exact fin
  unfold O_rise_11 F_rise_11
  rw [n_clamp (by omega), q1.1.a 44 (by decide), e44, n_add]
  refine wp_and ((n_in (by omega)).2 (by omega)) (wp_ite (fun c => ?_) (fun c => ?_)) <;> rw [n_le' (by omega) (by omega)] at c
  · refine main S1 q1.1 (fun x => ?_) (fun x => ?_)
    · have := q1.2.1 x
      exact ⟨fun z => this.1 (z.resolve_right (fun y => by omega)), fun z => this.2 (fun y => z (Or.inl y))⟩
    · have := q1.2.2 x
      exact ⟨fun z => this.1 (z.resolve_right (fun y => by omega)), fun z => this.2 (fun y => z (Or.inl y))⟩
  · refine wp_and ((n_in (by omega)).2 (by omega)) (wp_call (forgetHeight_ok (h := h + 1) (by omega) (by omega) (by omega)) (fun q2 => ?_))
    generalize f_forgetHeight N S1 (nI n) (nI (h + 1)) = S2 at q2 ⊢
    refine main S2 (q1.1.trans q2.1) (fun x => ?_) (fun x => ?_)
    · have a := q1.2.1 x
      have b := q2.2.1 x
      by_cases e : inHd n ((h + 1) % 2) x
      · exact ⟨fun _ => b.1 e, fun z => absurd (Or.inr ⟨by omega, e⟩) z⟩
      · rw [b.2 e]
        exact ⟨fun z => a.1 (z.resolve_right (fun y => e y.2)), fun z => a.2 (fun y => z (Or.inl y))⟩
    · have a := q1.2.2 x
      have b := q2.2.2 x
      by_cases e : inVt n ((h + 1) % 2) x
      · exact ⟨fun _ => b.1 e, fun z => absurd (Or.inr ⟨by omega, e⟩) z⟩
      · rw [b.2 e]
        exact ⟨fun z => a.1 (z.resolve_right (fun y => e y.2)), fun z => a.2 (fun y => z (Or.inl y))⟩
end
end
