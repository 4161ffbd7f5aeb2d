section SPP
variable {l : Launch} {D : va_G} {cid : Nat → ClassId} {Z : Nat → Prop} {f : HF} {A : Nat → Nat} {N i : Nat} {cs : Nat → PC} {R : RS}
theorem sp_count {F : HF} {a : Nat} {g : Nat → Option Nat} {km : KM} (hN : N ≤ 5) (hg : F a = some (.inr (.inr (2, N, g)))) (ho : ∀ t, t < N → OptR Z F N (g t) (km t)) : CS l D cid m_P_count [.ref a] F (fun v f' => v = some (.int (cnt km N)) ∧ f' = F) := by
  intro X hX
  have loop : ∀ t, t ≤ N → ∀ bc bs, FR l D cid m_P_count X 4 [some (.ref a), some (.int (cnt km t)), some (.int (nI t))] [] F bc bs := by
    refine up_to ?_ ?_
    · intro bc bs
      refine b_P_count_4 hX _ _ _ _ _ (i_iload rfl <| i_aload rfl <| i_alenq hg <| i_cmp_t (Int32.le_refl _) ?_)
      refine b_P_count_25 hX _ _ _ _ _ (i_iload rfl <| i_iret ?_)
      exact ⟨rfl, rfl⟩
    · intro t ht ih bc bs
      refine b_P_count_4 hX _ _ _ _ _ (i_iload rfl <| i_aload rfl <| i_alenq hg <| i_cmp_f (nI_ge ht (by omega)) ?_)
      have h19 : ∀ x, x = cnt km (t + 1) → ∀ bc bs, FR l D cid m_P_count X 19 [some (.ref a), some (.int x), some (.int (nI t))] [] F bc bs := by
        intro x hx bc bs
        refine b_P_count_19 hX _ _ _ _ _ (i_iinc rfl <| i_end ?_)
        have h := ih bc bs
        rw [nI_succ, ← hx] at h
        exact h
      have hot := ho t ht
      refine b_P_count_10 hX _ _ _ _ _ (i_aload rfl <| i_iload rfl <| i_aldq hg ⟨rfl, ht, by omega⟩ <| i_null_v ?_ ?_)
      · intro hn
        refine h19 _ ?_ _ _
        rw [hn] at hot
        cases hk : km t with
        | none => simp [cnt, hk]
        | some m => rw [hk] at hot; exact hot.elim
      · intro q hq
        refine b_P_count_16 hX _ _ _ _ _ (i_iinc rfl <| i_end ?_)
        refine h19 _ ?_ _ _
        rw [hq] at hot
        cases hk : km t with
        | none => rw [hk] at hot; exact hot.elim
        | some m => simp [cnt, hk]
  refine b_P_count_0 hX _ _ _ _ _ (i_push <| i_istore <| i_push <| i_istore <| i_end ?_)
  exact loop 0 (Nat.zero_le _) _ _
theorem sp_greatestView {F : HF} {a : Nat} {g : Nat → Option Nat} {km : KM} (hN : N ≤ 5) (hg : F a = some (.inr (.inr (2, N, g)))) (ho : ∀ t, t < N → OptR Z F N (g t) (km t)) : CS l D cid m_P_greatestView [.ref a] F (fun v f' => v = some (.int (gvw km N)) ∧ f' = F) := by
  intro X hX
  have loop : ∀ t, t ≤ N → ∀ bc bs, FR l D cid m_P_greatestView X 4 [some (.ref a), some (.int (gvw km t)), some (.int (nI t))] [] F bc bs := by
    refine up_to ?_ ?_
    · intro bc bs
      refine b_P_greatestView_4 hX _ _ _ _ _ (i_iload rfl <| i_aload rfl <| i_alenq hg <| i_cmp_t (Int32.le_refl _) ?_)
      refine b_P_greatestView_33 hX _ _ _ _ _ (i_iload rfl <| i_iret ?_)
      exact ⟨rfl, rfl⟩
    · intro t ht ih bc bs
      refine b_P_greatestView_4 hX _ _ _ _ _ (i_iload rfl <| i_aload rfl <| i_alenq hg <| i_cmp_f (nI_ge ht (by omega)) ?_)
      have h27 : ∀ x, x = gvw km (t + 1) → ∀ bc bs, FR l D cid m_P_greatestView X 27 [some (.ref a), some (.int x), some (.int (nI t))] [] F bc bs := by
        intro x hx bc bs
        refine b_P_greatestView_27 hX _ _ _ _ _ (i_iinc rfl <| i_end ?_)
        have h := ih bc bs
        rw [nI_succ, ← hx] at h
        exact h
      have hot := ho t ht
      refine b_P_greatestView_10 hX _ _ _ _ _ (i_aload rfl <| i_iload rfl <| i_aldq hg ⟨rfl, ht, by omega⟩ <| i_null_v ?_ ?_)
      · intro hn
        refine h27 _ ?_ _ _
        rw [hn] at hot
        cases hk : km t with
        | none => simp [gvw, hk]
        | some m => rw [hk] at hot; exact hot.elim
      · intro q hq
        rw [hq] at hot
        cases hk : km t with
        | none => rw [hk] at hot; exact hot.elim
        | some m =>
          rw [hk] at hot
          obtain ⟨hz, va, la, h1, h2⟩ := hot
          refine b_P_greatestView_16 hX _ _ _ _ _ (i_iload rfl <| i_aload rfl <| i_iload rfl <| i_aldq' hg (⟨⟨rfl, ht, by omega⟩, congrArg va_rf hq⟩) <| i_getf h1 rfl <| j_rdS (sp_max) rfl rfl <| i_istore <| i_end ?_)
          refine h27 _ ?_ _ _
          simp [gvw, hk]
  refine b_P_greatestView_0 hX _ _ _ _ _ (i_push <| i_istore <| i_push <| i_istore <| i_end ?_)
  exact loop 0 (Nat.zero_le _) _ _
theorem sp_forgetAcked {la va : Nat} {g : Nat → Int32} (hA : AI (5 + 5 * N) A) (hi : i < N) (hN : N ≤ 5) (ho : cs (5 + 5 * i) = .inl (2, robj A i la va R)) (hg : cs (6 + 5 * i) = .inr (.inl (0, N, g))) :
    CS l D cid m_P_forgetAcked [.ref (A (5 + 5 * i))] (hC (5 + 5 * N) A f cs) (fun v f' => v = none ∧ ∃ g', f' = hC (5 + 5 * N) A f (va_up cs (6 + 5 * i) (.inr (.inl (0, N, g')))) ∧ ∀ t, t < N → g' t = 0) := by
  intro X hX
  have h5 : 5 + 5 * i < 5 + 5 * N := by omega
  have h10 : 6 + 5 * i < 5 + 5 * N := by omega
  have loop : ∀ t, t ≤ N → ∀ g1 : Nat → Int32, (∀ s, s < t → g1 s = 0) → ∀ bc bs, FR l D cid m_P_forgetAcked X 2 [some (.ref (A (5 + 5 * i))), some (.int (nI t))] [] (hC (5 + 5 * N) A f (va_up cs (6 + 5 * i) (.inr (.inl (0, N, g1))))) bc bs := by
    refine up_to ?_ ?_
    · intro g1 hg1 bc bs
      refine b_P_forgetAcked_2 hX _ _ _ _ _ (i_iload rfl <| i_aload rfl <| i_getf (c_cell hA h5 ((va_n (by omega)).trans ho)) rfl <| i_alen (c_cell hA h10 (va_s _ _ _)) <| i_cmp_t (Int32.le_refl _) ?_)
      refine b_P_forgetAcked_24 hX _ _ _ _ _ (i_ret ?_)
      exact ⟨rfl, g1, rfl, hg1⟩
    · intro t ht ih g1 hg1 bc bs
      simp only [nI_succ] at ih
      refine b_P_forgetAcked_2 hX _ _ _ _ _ (i_iload rfl <| i_aload rfl <| i_getf (c_cell hA h5 ((va_n (by omega)).trans ho)) rfl <| i_alen (c_cell hA h10 (va_s _ _ _)) <| i_cmp_f (nI_ge ht (by omega)) ?_)
      refine b_P_forgetAcked_11 hX _ _ _ _ _ (i_aload rfl <| i_getf (c_cell hA h5 ((va_n (by omega)).trans ho)) rfl <| i_iload rfl <| i_push <| c_ast hA h10 (va_s _ _ _) ⟨rfl, ht, by omega⟩ <| i_iinc rfl <| i_end ?_)
      rw [va_va]
      refine ih (upd g1 t 0) (fun s hs => ?_) _ _
      by_cases e : s = t
      · rw [e, upd_s]
      · rw [upd_n e]
        exact hg1 s (by omega)
  refine b_P_forgetAcked_0 hX _ _ _ _ _ (i_push <| i_istore <| i_end ?_)
  have h := loop 0 (Nat.zero_le _) g (fun s hs => by omega)
  rw [va_id hg] at h
  exact h _ _
def NoK (cs : Nat → PC) (N k : Nat) : Prop := ∃ g : Nat → Option Nat, cs k = .inr (.inr (2, N, g)) ∧ ∀ t, t < N → g t = none
theorem no_s {g : Nat → Option Nat} {t : Nat} (h : ∀ s, s < t → g s = none) : ∀ s, s < t + 1 → va_up g t none s = none := by
  intro s hs
  by_cases e : s = t
  · rw [e, va_s]
  · rw [va_n e]
    exact h s (by omega)
theorem NoK.kep {Z : Nat → Prop} {f : HF} {cs : Nat → PC} {N k : Nat} (h : NoK cs N k) : KepC Z f cs N k noK := by
  obtain ⟨g, h1, h2⟩ := h
  exact ⟨g, h1, fun t ht => by rw [h2 t ht]; exact trivial⟩
theorem sp_forgetKept {la va : Nat} {g1 g2 g3 : Nat → Option Nat} (hA : AI (5 + 5 * N) A) (hi : i < N) (hN : N ≤ 5) (ho : cs (5 + 5 * i) = .inl (2, robj A i la va R)) (k1 : cs (7 + 5 * i) = .inr (.inr (2, N, g1))) (k2 : cs (8 + 5 * i) = .inr (.inr (2, N, g2))) (k3 : cs (9 + 5 * i) = .inr (.inr (2, N, g3))) :
    CS l D cid m_P_forgetKept [.ref (A (5 + 5 * i))] (hC (5 + 5 * N) A f cs) (fun v f' => v = none ∧ ∃ cs', f' = hC (5 + 5 * N) A f cs' ∧ (∀ k, k ≠ 7 + 5 * i → k ≠ 8 + 5 * i → k ≠ 9 + 5 * i → cs' k = cs k) ∧ NoK cs' N (7 + 5 * i) ∧ NoK cs' N (8 + 5 * i) ∧ NoK cs' N (9 + 5 * i)) := by
  intro X hX
  have h5 : 5 + 5 * i < 5 + 5 * N := by omega
  have h15 : 7 + 5 * i < 5 + 5 * N := by omega
  have h20 : 8 + 5 * i < 5 + 5 * N := by omega
  have h25 : 9 + 5 * i < 5 + 5 * N := by omega
  have loop : ∀ t, t ≤ N → ∀ (cs1 : Nat → PC) (f1 f2 f3 : Nat → Option Nat), (∀ k, k ≠ 7 + 5 * i → k ≠ 8 + 5 * i → k ≠ 9 + 5 * i → cs1 k = cs k) → cs1 (7 + 5 * i) = .inr (.inr (2, N, f1)) → (∀ s, s < t → f1 s = none) → cs1 (8 + 5 * i) = .inr (.inr (2, N, f2)) → (∀ s, s < t → f2 s = none) → cs1 (9 + 5 * i) = .inr (.inr (2, N, f3)) → (∀ s, s < t → f3 s = none) →
      ∀ bc bs, FR l D cid m_P_forgetKept X 2 [some (.ref (A (5 + 5 * i))), some (.int (nI t))] [] (hC (5 + 5 * N) A f cs1) bc bs := by
    refine up_to ?_ ?_
    · intro cs1 f1 f2 f3 hs e1 n1 e2 n2 e3 n3 bc bs
      have ho1 : cs1 (5 + 5 * i) = .inl (2, robj A i la va R) := (hs _ (by omega) (by omega) (by omega)).trans ho
      refine b_P_forgetKept_2 hX _ _ _ _ _ (i_iload rfl <| i_aload rfl <| i_getf (c_cell hA h5 ho1) rfl <| i_alenq (c_cell hA h15 e1) <| i_cmp_t (Int32.le_refl _) ?_)
      refine b_P_forgetKept_38 hX _ _ _ _ _ (i_ret ?_)
      exact ⟨rfl, cs1, rfl, hs, ⟨f1, e1, n1⟩, ⟨f2, e2, n2⟩, ⟨f3, e3, n3⟩⟩
    · intro t ht ih cs1 f1 f2 f3 hs e1 n1 e2 n2 e3 n3 bc bs
      simp only [nI_succ] at ih
      have ho1 : cs1 (5 + 5 * i) = .inl (2, robj A i la va R) := (hs _ (by omega) (by omega) (by omega)).trans ho
      refine b_P_forgetKept_2 hX _ _ _ _ _ (i_iload rfl <| i_aload rfl <| i_getf (c_cell hA h5 ho1) rfl <| i_alenq (c_cell hA h15 e1) <| i_cmp_f (nI_ge ht (by omega)) ?_)
      refine b_P_forgetKept_11 hX _ _ _ _ _ (i_aload rfl <| i_getf (c_cell hA h5 ho1) rfl <| i_iload rfl <| i_push <| c_astq_n hA h15 e1 ⟨rfl, ht, by omega⟩ <| i_aload rfl <| i_getf (c_cell hA h5 ((va_n (by omega)).trans ho1)) rfl <| i_iload rfl <| i_push <| c_astq_n hA h20 ((va_n (by omega)).trans e2) ⟨rfl, ht, by omega⟩ <| i_aload rfl <| i_getf (c_cell hA h5 ((va_n (by omega)).trans ((va_n (by omega)).trans ho1))) rfl <| i_iload rfl <| i_push <| c_astq_n hA h25 ((va_n (by omega)).trans ((va_n (by omega)).trans e3)) ⟨rfl, ht, by omega⟩ <| i_iinc rfl <| i_end ?_)
      refine ih _ (va_up f1 t none) (va_up f2 t none) (va_up f3 t none) ?_ ?_ (no_s n1) ?_ (no_s n2) ?_ (no_s n3) _ _
      · intro k a b c
        rw [va_n c, va_n b, va_n a]
        exact hs k a b c
      · exact (va_n (by omega)).trans ((va_n (by omega)).trans (va_s _ _ _))
      · exact (va_n (by omega)).trans (va_s _ _ _)
      · exact va_s _ _ _
  refine b_P_forgetKept_0 hX _ _ _ _ _ (i_push <| i_istore <| i_end ?_)
  exact loop 0 (Nat.zero_le _) cs g1 g2 g3 (fun _ _ _ _ => rfl) k1 (fun s hs => by omega) k2 (fun s hs => by omega) k3 (fun s hs => by omega) _ _
theorem sp_becomeNormal {la' : Nat} {v c : Int32} {lg : List Ent} (hA : AI (5 + 5 * N) A) (hi : i < N) (hN : N ≤ 5) (hR : RepC Z f A N cs i R) (hl : LogR Z f lg la') (hc : b24 c) :
    CS l D cid m_P_becomeNormal [.ref (A (5 + 5 * i)), .int v, .ref la', .int c] (hC (5 + 5 * N) A f cs) (fun w f' => w = none ∧ ∃ cs', f' = hC (5 + 5 * N) A f cs' ∧ (∀ k, ¬ W5 i k → cs' k = cs k) ∧ RepC Z f A N cs' i (r_normal R v lg c)) := by
  intro X hX
  have h5 : 5 + 5 * i < 5 + 5 * N := by omega
  obtain ⟨la, va, h1, h2, h3, h4, ⟨g1, k1, k1'⟩, ⟨g2, k2, k2'⟩, ⟨g3, k3, k3'⟩, h8, h9⟩ := hR
  refine b_P_becomeNormal_0 hX _ _ _ _ _ (i_aload rfl <| i_push <| c_putI hA h5 h1 rfl <| i_aload rfl <| i_iload rfl <| c_putI hA h5 (va_s _ _ _) rfl <| i_aload rfl <| i_iload rfl <| c_putI hA h5 (va_s _ _ _) rfl <| i_aload rfl <| i_aload rfl <| c_putR hA h5 (va_s _ _ _) rfl <| i_aload rfl <| i_iload rfl <| c_putI hA h5 (va_s _ _ _) rfl <| i_aload rfl <| ?_)
  simp only [va_va]
  refine j_callV (c_cell hA h5 (va_s _ _ _)) (sp_forgetKept (la := la') (va := va) (R := r_normal R v lg c) (g1 := g1) (g2 := g2) (g3 := g3) hA hi hN (va_s _ _ _) ((va_n (by omega)).trans k1) ((va_n (by omega)).trans k2) ((va_n (by omega)).trans k3)) rfl rfl ?_
  rintro w f' ⟨rfl, cs', rfl, hs, n1, n2, n3⟩
  refine (i_ret ?_)
  refine ⟨rfl, cs', rfl, fun k hk => ?_, la', va, ?_, hl, h3, ?_, n1.kep, n2.kep, n3.kep, hc, h9⟩
  · simp only [W5] at hk
    rw [hs k (by omega) (by omega) (by omega), va_n (by omega)]
  · rw [hs _ (by omega) (by omega) (by omega), va_s]
    rfl
  · exact h4.fm ((hs _ (by omega) (by omega) (by omega)).trans (va_n (by omega)))
end SPP
