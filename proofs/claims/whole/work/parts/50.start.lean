section START
variable {e B : Nat → Nat} {cs : Nat → PC} {F : HF} {N : Nat}
def sg (k : Nat) : Nat := if k = 0 then 0 else if k = 1 then 4 else if k < 5 then k - 1 else if (k - 5) % 5 = 0 then 5 + 7 * ((k - 5) / 5) + 6 else 5 + 7 * ((k - 5) / 5) + ((k - 5) % 5 + 1)
theorem sg_lt {k : Nat} (h : k < 5 + 5 * N) : sg k < 5 + 7 * N := by
  unfold sg
  split
  · omega
  · split
    · omega
    · split
      · omega
      · split
        · omega
        · omega
theorem sg_c (k : Nat) : (k = 0 ∧ sg k = 0) ∨ (k = 1 ∧ sg k = 4) ∨ (2 ≤ k ∧ k < 5 ∧ sg k = k - 1) ∨ (∃ i, k = 5 + 5 * i ∧ sg k = 5 + 7 * i + 6) ∨ ∃ i r, k = 5 + 5 * i + r ∧ 1 ≤ r ∧ r ≤ 4 ∧ sg k = 5 + 7 * i + (r + 1) := by
  unfold sg
  split
  · exact Or.inl ⟨by omega, rfl⟩
  · split
    · exact Or.inr (Or.inl ⟨by omega, rfl⟩)
    · split
      · exact Or.inr (Or.inr (Or.inl ⟨by omega, by omega, rfl⟩))
      · split
        · exact Or.inr (Or.inr (Or.inr (Or.inl ⟨(k - 5) / 5, by omega, rfl⟩)))
        · exact Or.inr (Or.inr (Or.inr (Or.inr ⟨(k - 5) / 5, (k - 5) % 5, by omega, by omega, by omega, rfl⟩)))
theorem sg_inj {j k : Nat} (h : sg j = sg k) : j = k := by
  rcases sg_c j with h1 | h1 | h1 | ⟨i, h1⟩ | ⟨i, r, h1⟩ <;> rcases sg_c k with h2 | h2 | h2 | ⟨i', h2⟩ | ⟨i', r', h2⟩ <;> omega
theorem sg_ne (i k : Nat) : ¬ 5 + 7 * i = sg k ∧ ¬ 5 + 7 * i + 1 = sg k := by
  rcases sg_c k with h2 | h2 | h2 | ⟨i', h2⟩ | ⟨i', r', h2⟩ <;> omega
theorem sg_5 (i : Nat) : sg (5 + 5 * i) = 5 + 7 * i + 6 := by
  rcases sg_c (5 + 5 * i) with h2 | h2 | h2 | ⟨i', h2⟩ | ⟨i', r', h2⟩ <;> omega
theorem sg_6 (i : Nat) : sg (6 + 5 * i) = 5 + 7 * i + 2 := by
  rcases sg_c (6 + 5 * i) with h2 | h2 | h2 | ⟨i', h2⟩ | ⟨i', r', h2⟩ <;> omega
theorem sg_7 (i : Nat) : sg (7 + 5 * i) = 5 + 7 * i + 3 := by
  rcases sg_c (7 + 5 * i) with h2 | h2 | h2 | ⟨i', h2⟩ | ⟨i', r', h2⟩ <;> omega
theorem sg_8 (i : Nat) : sg (8 + 5 * i) = 5 + 7 * i + 4 := by
  rcases sg_c (8 + 5 * i) with h2 | h2 | h2 | ⟨i', h2⟩ | ⟨i', r', h2⟩ <;> omega
theorem sg_9 (i : Nat) : sg (9 + 5 * i) = 5 + 7 * i + 5 := by
  rcases sg_c (9 + 5 * i) with h2 | h2 | h2 | ⟨i', h2⟩ | ⟨i', r', h2⟩ <;> omega
def R0 : RS := (0, 0, 0, [], 0, fun _ => 0, fun _ => 0, 0, noK, noK, noK, 0)
def S0 : GS := (0, -1, fun _ => (0, 0, 0, 0, 0, fun _ => 0, [], 0), fun _ => 0, fun _ => 0, fun _ => R0)
theorem ok_0 : Ok N 0 S0 := by
  have hk : ∀ i, KO N 0 i noK := fun i t m _ h => nomatch (show (none : Option Msg) = some m from h)
  refine ⟨⟨fun i hi => ⟨⟨0, by omega, rfl⟩, ⟨0, Nat.le_refl _, rfl⟩, ⟨0, Nat.le_refl _, rfl⟩, ⟨Nat.zero_le _, fun e he => nomatch he⟩, b24_0, fun _ _ => b24_0, rfl, Or.inl rfl, hk i, hk i, hk i, fun _ _ _ => ⟨rfl, rfl⟩, fun _ _ _ => rfl⟩, fun k hk => absurd hk (Nat.not_lt_zero k), ⟨0, Nat.le_refl _, by decide⟩⟩, Nat.le_refl _⟩
theorem rel_0 : Rel N s00 S0 none := by
  have hk : ∀ t, kepE R0 t = none := fun t => by
    unfold kepE
    split <;> rfl
  have h16 : ∀ x t, ShQ s00 x t (kepE R0 t) := fun x t => by
    rw [hk t]
    rfl
  exact ⟨rfl, rfl, fun c _ => ⟨rfl, rfl⟩, fun i _ => ⟨rfl, rfl, rfl, rfl, ⟨rfl, Nat.zero_le _, trivial⟩, fun _ _ => rfl, fun _ _ => rfl, rfl, rfl, fun _ _ => rfl, fun t _ => h16 _ t⟩, fun k hk => absurd hk (Nat.not_lt_zero k), fun M hM => nomatch hM⟩
theorem li_0 (hA : AI (5 + 7 * N) e) (hG : GF e cs N N) (hB : QI B) (hd : ∀ j, us j = true → hC (5 + 7 * N) e F cs (B j) = none) :
    AI (5 + 5 * N) (fun k => e (sg k)) ∧ (∀ a, isA (5 + 5 * N) (fun k => e (sg k)) a → ¬ isQ B a) ∧ LI (fun a => isA (5 + 5 * N) (fun k => e (sg k)) a ∨ isQ B a) (fun k => e (sg k)) B N 0 (hQ (hC (5 + 7 * N) e F cs) B N s00) := by
  have hA' : AI (5 + 5 * N) (fun k => e (sg k)) := fun j k hj hk h => sg_inj (hA _ _ (sg_lt hj) (sg_lt hk) h)
  have hq : ∀ k, k < 5 + 7 * N → ¬ isQ B (e k) := by
    rintro k hk ⟨j, hj, h⟩
    have h1 := hd j hj
    rw [← h, hC_at hA hk] at h1
    cases h1
  have hf : ∀ k, k < 5 + 7 * N → hQ (hC (5 + 7 * N) e F cs) B N s00 (e k) = some (cs k) := fun k hk => by
    rw [hQ_no (hq k hk), hC_at hA hk]
  have hdis : ∀ a, isA (5 + 5 * N) (fun k => e (sg k)) a → ¬ isQ B a := by
    rintro a ⟨k, hk, rfl⟩
    exact hq _ (sg_lt hk)
  obtain ⟨g0, ⟨g, g4, g4'⟩, g1, g2, g3, g5⟩ := id hG
  refine ⟨hA', hdis, hC (5 + 7 * N) e F cs, fun k => cs (sg k), s00, S0, ?_, ⟨hA', fun a ha => Or.inl ha, fun a ha => ?_⟩, ?_, rel_0, ok_0⟩
  · exact (hC_self hA' (fun k hk => hf _ (sg_lt hk))).symm
  · refine ha.imp_right ?_
    rintro ⟨j, hj, rfl⟩ h
    rw [hQ_at hB hj] at h
    cases h
  · refine ⟨g0, ⟨g, g4, fun i hi => ?_⟩, ⟨_, g1, fun k hk => absurd hk (Nat.not_lt_zero k)⟩, ⟨_, g2, fun _ _ => rfl⟩, ⟨_, g3, fun _ _ => rfl⟩, fun i hi => ?_⟩
    · rw [g4' i hi]
      show some _ = some (e (sg (5 + 5 * i)))
      rw [sg_5]
    · obtain ⟨c0, c1, c2, c3, c4, c5, c6⟩ := g5 i hi
      have z0 : ¬ (isA (5 + 5 * N) (fun k => e (sg k)) (e (5 + 7 * i)) ∨ isQ B (e (5 + 7 * i))) := by
        rintro (⟨k, hk, h⟩ | h)
        · exact (sg_ne i k).1 (hA _ _ (by omega) (sg_lt hk) h)
        · exact hq _ (by omega) h
      have z1 : ¬ (isA (5 + 5 * N) (fun k => e (sg k)) (e (5 + 7 * i + 1)) ∨ isQ B (e (5 + 7 * i + 1))) := by
        rintro (⟨k, hk, h⟩ | h)
        · exact (sg_ne i k).2 (hA _ _ (by omega) (sg_lt hk) h)
        · exact hq _ (by omega) h
      refine ⟨e (5 + 7 * i), e (5 + 7 * i + 1), ?_, ⟨z0, ?_⟩, ⟨z1, fun _ => 0, ?_, fun _ _ => rfl⟩, ⟨fun _ => 0, ?_, fun _ _ => rfl⟩, ⟨fun _ => none, ?_, fun _ _ => trivial⟩, ⟨fun _ => none, ?_, fun _ _ => trivial⟩, ⟨fun _ => none, ?_, fun _ _ => trivial⟩, b24_0, fun _ _ => b24_0⟩
      · show cs (sg (5 + 5 * i)) = .inl (2, [_, _, _, _, _, _, _, .ref (e (sg (6 + 5 * i))), _, .ref (e (sg (7 + 5 * i))), .ref (e (sg (8 + 5 * i))), .ref (e (sg (9 + 5 * i))), _])
        rw [sg_5, sg_6, sg_7, sg_8, sg_9]
        exact c6
      · rw [hf _ (by omega), c0]
      · rw [hf _ (by omega), c1]
      · show cs (sg (6 + 5 * i)) = _
        rw [sg_6]
        exact c2
      · show cs (sg (7 + 5 * i)) = _
        rw [sg_7]
        exact c3
      · show cs (sg (8 + 5 * i)) = _
        rw [sg_8]
        exact c4
      · show cs (sg (9 + 5 * i)) = _
        rw [sg_9]
        exact c5
end START
