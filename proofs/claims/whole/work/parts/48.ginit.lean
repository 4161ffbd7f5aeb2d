section GINIT
variable {l : Launch} {D : va_G} {cid : Nat → ClassId} {F : HF} {A : Nat → Nat} {N K : Nat} {cs : Nat → PC}
theorem AI_push {q : Nat} (hA : AI K A) (h : ¬ isA K A q) : AI (K + 1) (va_up A K q) := by
  intro j k hj hk e
  by_cases j0 : j = K
  · by_cases k0 : k = K
    · omega
    · rw [j0, va_s, va_n k0] at e
      exact absurd ⟨k, by omega, e⟩ h
  · by_cases k0 : k = K
    · rw [k0, va_s, va_n j0] at e
      exact absurd ⟨j, by omega, e.symm⟩ h
    · rw [va_n j0, va_n k0] at e
      exact hA j k (by omega) (by omega) e
theorem hC_push {q : Nat} (hA : AI K A) (h : hC K A F cs q = none) (c : PC) : hup (hC K A F cs) q c = hC (K + 1) (va_up A K q) F (va_up cs K c) ∧ AI (K + 1) (va_up A K q) := by
  obtain ⟨h1, h2⟩ := hC_none h
  have hA' := AI_push hA h1
  refine ⟨?_, hA'⟩
  funext a
  by_cases e : a = q
  · subst e
    have e1 : hC (K + 1) (va_up A K a) F (va_up cs K c) (va_up A K a K) = some (va_up cs K c K) := hC_at hA' (by omega)
    rw [va_s, va_s] at e1
    rw [hup_s, e1]
  · rw [hup_n e]
    by_cases ha : isA K A a
    · obtain ⟨k, hk, rfl⟩ := ha
      have e1 : hC (K + 1) (va_up A K q) F (va_up cs K c) (va_up A K q k) = some (va_up cs K c k) := hC_at hA' (by omega)
      rw [va_n (by omega), va_n (by omega)] at e1
      rw [hC_at hA hk, e1]
    · have hn : ¬ isA (K + 1) (va_up A K q) a := by
        rintro ⟨k, hk, e2⟩
        by_cases k0 : k = K
        · rw [k0, va_s] at e2
          exact e e2
        · rw [va_n k0] at e2
          exact ha ⟨k, by omega, e2⟩
      rw [hC_no ha, hC_no hn]
theorem hC_self {G : HF} (hA : AI K A) (h : ∀ k, k < K → G (A k) = some (cs k)) : hC K A G cs = G := by
  funext a
  by_cases ha : isA K A a
  · obtain ⟨k, hk, rfl⟩ := ha
    rw [hC_at hA hk, h k hk]
  · exact hC_no ha
theorem AI_1 (q : Nat) : AI 1 (fun _ => q) := fun j k hj hk _ => by omega
theorem hC_1 {G : HF} {q : Nat} : hC 1 (fun _ => q) G cs = hup G q (cs 0) := by
  funext a
  by_cases e : a = q
  · subst e
    rw [hup_s]
    exact hC_at (AI_1 a) (k := 0) (by omega)
  · rw [hup_n e]
    exact hC_no (fun ⟨k, _, h⟩ => e h)
theorem hC_1c {G : HF} {q : Nat} (c : PC) : hup G q c = hC 1 (fun _ => q) G (fun _ => c) := (hC_1 (cs := fun _ => c)).symm
def GF (e : Nat → Nat) (cs : Nat → PC) (N t : Nat) : Prop := cs 0 = .inl (3, [.int (nI N), .int (nI (N / 2)), .ref (e 4), .ref (e 1), .int 0, .int (-1), .ref (e 2), .ref (e 3)]) ∧ (∃ g, cs 4 = .inr (.inr (3, N, g)) ∧ ∀ i, i < t → g i = some (e (5 + 7 * i + 6))) ∧ cs 1 = .inr (.inr (2, 64, fun _ => none)) ∧ cs 2 = cI0 4 ∧ cs 3 = cI0 4 ∧
  ∀ i, i < t → cs (5 + 7 * i) = cL0 ∧ cs (5 + 7 * i + 1) = cI0 N ∧ cs (5 + 7 * i + 2) = cI0 N ∧ cs (5 + 7 * i + 3) = cQ0 N ∧ cs (5 + 7 * i + 4) = cQ0 N ∧ cs (5 + 7 * i + 5) = cQ0 N ∧ cs (5 + 7 * i + 6) = cR0 i (e (5 + 7 * i)) (e (5 + 7 * i + 1)) (e (5 + 7 * i + 2)) (e (5 + 7 * i + 3)) (e (5 + 7 * i + 4)) (e (5 + 7 * i + 5))
theorem g_loop {X : CT} {p : Nat} {x : Int32} {Post : PT} (hX : OK l D cid m_G_init X Post) (hN : N ≤ 5) (hpost : ∀ e cs, AI (5 + 7 * N) e → e 0 = p → GF e cs N N → Post none (hC (5 + 7 * N) e F cs)) :
    ∀ t, t ≤ N → ∀ (e : Nat → Nat) (cs : Nat → PC) (bc bs : Nat), AI (5 + 7 * t) e → e 0 = p → GF e cs N t → 7 * (N - t) ≤ bc → 339 * (N - t) ≤ bs → FR l D cid m_G_init X 75 [some (.ref p), some (.int x), some (.int (nI t))] [] (hC (5 + 7 * t) e F cs) bc bs := by
  refine up_to ?_ ?_
  · intro e cs bc bs hA he hG hb1 hb2
    have hp := c_cell (f := F) (k := 0) hA (by omega) hG.1
    rw [he] at hp
    refine b_G_init_75 hX _ _ _ _ _ (i_iload rfl <| i_aload rfl <| i_getf hp rfl <| i_cmp_t (Int32.le_refl _) ?_)
    refine b_G_init_107 hX _ _ _ _ _ (i_ret ?_)
    exact hpost e cs hA he hG
  · intro t ht ih e cs bc bs hA he hG hb1 hb2
    simp only [nI_succ] at ih
    have hp := c_cell (f := F) (k := 0) hA (by omega) hG.1
    rw [he] at hp
    obtain ⟨g0, ⟨g, g4, g4'⟩, g1, g2, g3, g5⟩ := id hG
    refine b_G_init_75 hX _ _ _ _ _ (i_iload rfl <| i_aload rfl <| i_getf hp rfl <| i_cmp_f (nI_ge ht (by omega)) ?_)
    refine b_G_init_83 hX _ _ _ _ _ (i_aload rfl <| i_getf hp rfl <| i_iload rfl <| i_new ⟨by omega, by omega⟩ fun q1 hq1 => i_dup <| i_iload rfl <| i_aload rfl <| ?_)
    have nq : p ≠ q1 := ne_of hp hq1
    refine (i_getf ((hup_n nq).trans hp) rfl <| ?_)
    rw [show hup (hC (5 + 7 * t) e F cs) q1 (.inl (2, df_P)) = hC 1 (fun _ => q1) (hC (5 + 7 * t) e F cs) (fun _ => .inl (2, df_P)) from hC_1c _]
    refine j_callI (sp_P_init0 (A := fun _ => q1) (F := hC (5 + 7 * t) e F cs) (cs := fun _ => .inl (2, df_P)) (i := t) (N := N) (AI_1 q1) hN rfl) rfl rfl ?_ (h4 := by show 6 ≤ bc - 1; omega) (h5 := by show 326 ≤ bs - 13; omega)
    rintro v F' ⟨rfl, r1, r2, r3, r4, r5, r6, ⟨n1, n2, n3, n4, n5, n6⟩, ⟨f1, f2, f3, f4, f5, f6⟩, rfl⟩
    have ne : ∀ r, ¬ isA 1 (fun _ => q1) r → q1 ≠ r := fun r h e => h ⟨0, by omega, e.symm⟩
    rw [hC_1, va_s]
    have fq : hup (hup (hup (hup (hup (hup (hC (5 + 7 * t) e F cs) r1 cL0) r2 (cI0 N)) r3 (cI0 N)) r4 (cQ0 N)) r5 (cQ0 N)) r6 (cQ0 N) q1 = none := by
      rw [hup_n (ne _ n6), hup_n (ne _ n5), hup_n (ne _ n4), hup_n (ne _ n3), hup_n (ne _ n2), hup_n (ne _ n1)]
      exact hq1
    obtain ⟨e1, A1⟩ := hC_push hA f1 cL0
    rw [e1] at f2 f3 f4 f5 f6 fq ⊢
    obtain ⟨e2, A2⟩ := hC_push A1 f2 (cI0 N)
    rw [e2] at f3 f4 f5 f6 fq ⊢
    obtain ⟨e3, A3⟩ := hC_push A2 f3 (cI0 N)
    rw [e3] at f4 f5 f6 fq ⊢
    obtain ⟨e4, A4⟩ := hC_push A3 f4 (cQ0 N)
    rw [e4] at f5 f6 fq ⊢
    obtain ⟨e5, A5⟩ := hC_push A4 f5 (cQ0 N)
    rw [e5] at f6 fq ⊢
    obtain ⟨e6, A6⟩ := hC_push A5 f6 (cQ0 N)
    rw [e6] at fq ⊢
    obtain ⟨e7, A7⟩ := hC_push A6 fq (cR0 t r1 r2 r3 r4 r5 r6)
    rw [e7]
    clear e1 e2 e3 e4 e5 e6 e7 f1 f2 f3 f4 f5 f6 fq A1 A2 A3 A4 A5 A6
    revert A7
    generalize hE : va_up (va_up (va_up (va_up (va_up (va_up (va_up e (5 + 7 * t) r1) (5 + 7 * t + 1) r2) (5 + 7 * t + 1 + 1) r3) (5 + 7 * t + 1 + 1 + 1) r4) (5 + 7 * t + 1 + 1 + 1 + 1) r5) (5 + 7 * t + 1 + 1 + 1 + 1 + 1) r6) (5 + 7 * t + 1 + 1 + 1 + 1 + 1 + 1) q1 = E
    generalize hH : va_up (va_up (va_up (va_up (va_up (va_up (va_up cs (5 + 7 * t) cL0) (5 + 7 * t + 1) (cI0 N)) (5 + 7 * t + 1 + 1) (cI0 N)) (5 + 7 * t + 1 + 1 + 1) (cQ0 N)) (5 + 7 * t + 1 + 1 + 1 + 1) (cQ0 N)) (5 + 7 * t + 1 + 1 + 1 + 1 + 1) (cQ0 N)) (5 + 7 * t + 1 + 1 + 1 + 1 + 1 + 1) (cR0 t r1 r2 r3 r4 r5 r6) = H
    have oE : ∀ k, k < 5 + 7 * t → E k = e k := fun k hk => by rw [← hE, va_n (by omega), va_n (by omega), va_n (by omega), va_n (by omega), va_n (by omega), va_n (by omega), va_n (by omega)]
    have oH : ∀ k, k < 5 + 7 * t → H k = cs k := fun k hk => by rw [← hH, va_n (by omega), va_n (by omega), va_n (by omega), va_n (by omega), va_n (by omega), va_n (by omega), va_n (by omega)]
    have E0 : E (5 + 7 * t) = r1 := by rw [← hE, va_n (by omega), va_n (by omega), va_n (by omega), va_n (by omega), va_n (by omega), va_n (by omega), va_s]
    have E1 : E (5 + 7 * t + 1) = r2 := by rw [← hE, va_n (by omega), va_n (by omega), va_n (by omega), va_n (by omega), va_n (by omega), va_s]
    have E2 : E (5 + 7 * t + 2) = r3 := by rw [← hE, va_n (by omega), va_n (by omega), va_n (by omega), va_n (by omega), va_s]
    have E3 : E (5 + 7 * t + 3) = r4 := by rw [← hE, va_n (by omega), va_n (by omega), va_n (by omega), va_s]
    have E4 : E (5 + 7 * t + 4) = r5 := by rw [← hE, va_n (by omega), va_n (by omega), va_s]
    have E5 : E (5 + 7 * t + 5) = r6 := by rw [← hE, va_n (by omega), va_s]
    have E6 : E (5 + 7 * t + 6) = q1 := by rw [← hE, va_s]
    have H0 : H (5 + 7 * t) = cL0 := by rw [← hH, va_n (by omega), va_n (by omega), va_n (by omega), va_n (by omega), va_n (by omega), va_n (by omega), va_s]
    have H1 : H (5 + 7 * t + 1) = cI0 N := by rw [← hH, va_n (by omega), va_n (by omega), va_n (by omega), va_n (by omega), va_n (by omega), va_s]
    have H2 : H (5 + 7 * t + 2) = cI0 N := by rw [← hH, va_n (by omega), va_n (by omega), va_n (by omega), va_n (by omega), va_s]
    have H3 : H (5 + 7 * t + 3) = cQ0 N := by rw [← hH, va_n (by omega), va_n (by omega), va_n (by omega), va_s]
    have H4 : H (5 + 7 * t + 4) = cQ0 N := by rw [← hH, va_n (by omega), va_n (by omega), va_s]
    have H5 : H (5 + 7 * t + 5) = cQ0 N := by rw [← hH, va_n (by omega), va_s]
    have H6 : H (5 + 7 * t + 6) = cR0 t r1 r2 r3 r4 r5 r6 := by rw [← hH, va_s]
    intro A7
    have hq : hC (5 + 7 * t + 1 + 1 + 1 + 1 + 1 + 1 + 1) E F H q1 = some (cR0 t r1 r2 r3 r4 r5 r6) := by rw [← E6]; exact c_cell A7 (by omega) H6
    have h4 : hC (5 + 7 * t + 1 + 1 + 1 + 1 + 1 + 1 + 1) E F H (e 4) = some (.inr (.inr (3, N, g))) := by rw [← oE 4 (by omega)]; exact c_cell A7 (by omega) ((oH 4 (by omega)).trans g4)
    refine (i_astq_r hq h4 ⟨rfl, ht, by omega⟩ <| i_iinc rfl <| i_end ?_)
    rw [← oE 4 (by omega), hC_up A7 (by omega)]
    have hK : 5 + 7 * t + 1 + 1 + 1 + 1 + 1 + 1 + 1 = 5 + 7 * (t + 1) := by omega
    rw [hK] at A7 ⊢
    refine ih E _ _ _ A7 ((oE 0 (by omega)).trans he) ⟨?_, ⟨va_up g t (some q1), va_s _ _ _, fun i hi => ?_⟩, ?_, ?_, ?_, fun i hi => ?_⟩ (by show 7 * (N - (t + 1)) ≤ bc - 1 - 6; omega) (by show 339 * (N - (t + 1)) ≤ bs - 13 - 326; omega)
    · rw [va_n (by omega), oH 0 (by omega), g0, oE 1 (by omega), oE 2 (by omega), oE 3 (by omega), oE 4 (by omega)]
    · by_cases e9 : i = t
      · rw [e9, va_s, E6]
      · rw [va_n e9, g4' i (by omega), oE _ (by omega)]
    · rw [va_n (by omega), oH 1 (by omega), g1]
    · rw [va_n (by omega), oH 2 (by omega), g2]
    · rw [va_n (by omega), oH 3 (by omega), g3]
    · by_cases e9 : i = t
      · subst e9
        rw [va_n (by omega), va_n (by omega), va_n (by omega), va_n (by omega), va_n (by omega), va_n (by omega), va_n (by omega), H0, H1, H2, H3, H4, H5, H6, E0, E1, E2, E3, E4, E5]
        exact ⟨rfl, rfl, rfl, rfl, rfl, rfl, rfl⟩
      · rw [va_n (by omega), va_n (by omega), va_n (by omega), va_n (by omega), va_n (by omega), va_n (by omega), va_n (by omega), oH _ (by omega), oH _ (by omega), oH _ (by omega), oH _ (by omega), oH _ (by omega), oH _ (by omega), oH _ (by omega), oE _ (by omega), oE _ (by omega), oE _ (by omega), oE _ (by omega), oE _ (by omega), oE _ (by omega)]
        exact g5 i (by omega)
end GINIT
