section RUN
variable {l : Launch} {D : va_G} {cid : Nat → ClassId} {X : CT} {Post : PT} {b L : Nat} {xs : Nat → Int32}
theorem law_run (hX : OK l D cid m_W_law X Post) (hsc : Scr X b L xs) (hL : L ≤ 2561) (hpost : ∀ f, Post (some (.int 1)) f) : FR l D cid m_W_law X 0 (entL 4 [.ref b]) [] (fun _ => none) 600000 7302249 := by
  have hL31 : L < 2 ^ 31 := by omega
  refine b_W_law_0 hX hsc _ _ _ _ _ (i_new ⟨by decide, by decide⟩ fun q1 hq1 => i_dup <| i_aload rfl <| i_push <| i_cell hL31 <| ?_)
  rw [show hup (fun _ => none) q1 (.inl (3, df_G)) = hC 1 (fun _ => q1) (fun _ => none) (fun _ => .inl (3, df_G)) from hC_1c _]
  refine j_callI (sp_G_init0 (A := fun _ => q1) (F := fun _ => none) (cs := fun _ => .inl (3, df_G)) (AI_1 q1) rfl) rfl rfl ?_ (h4 := by show 40 ≤ 600000 - 1; omega) (h5 := by show 2000 ≤ 7302249 - 8; omega)
  rintro v F' ⟨rfl, e, cs, rfl, hA, he, hG⟩
  refine (i_astore <| i_new ⟨by show 1 ≤ 600000 - 1 - 40; omega, by show 32 ≤ 7302249 - 8 - 2000; omega⟩ fun q2 hq2 => i_dup <| i_aload rfl <| i_push <| i_cell hL31 <| ?_)
  rw [show hup (hC (5 + 7 * nOf (if 0 < L then xs 0 else 0)) e (fun _ => none) cs) q2 (.inl (4, df_Q)) = hC 1 (fun _ => q2) (hC (5 + 7 * nOf (if 0 < L then xs 0 else 0)) e (fun _ => none) cs) (fun _ => .inl (4, df_Q)) from hC_1c _]
  refine j_callI (sp_Q_init0 (A := fun _ => q2) (F := hC (5 + 7 * nOf (if 0 < L then xs 0 else 0)) e (fun _ => none) cs) (cs := fun _ => .inl (4, df_Q)) (AI_1 q2) rfl) rfl rfl ?_ (h4 := by show 60 ≤ 600000 - 1 - 40 - 1; omega) (h5 := by show 60000 ≤ 7302249 - 8 - 2000 - 32; omega)
  rintro v F' ⟨rfl, B, rfl, hB, hB0, hBf⟩
  obtain ⟨hA5, hdis, hLI⟩ := li_0 (F := fun _ => none) hA hG hB (fun j hj => by
    by_cases j0 : j = 0
    · rw [j0, hB0]
      exact hq2
    · exact hBf j hj j0)
  have h28 : ∀ a1 a2, a1 = e 0 → a2 = B 0 → FR l D cid m_W_law X 28 [some (.ref b), some (.ref a1), some (.ref a2), some (.int 1)] [] (hQ (hC (5 + 7 * nOf (if 0 < L then xs 0 else 0)) e (fun _ => none) cs) B (nOf (if 0 < L then xs 0 else 0)) s00) (600000 - 1 - 40 - 1 - 60) (7302249 - 8 - 2000 - 32 - 60000) := by
    rintro a1 a2 rfl rfl
    exact law_loop hX hsc hL hpost (nOf_c _) hA5 hB hdis (fun a ha hq => ha (Or.inr hq)) 0 (Nat.zero_le _) _ _ _ hLI (by omega) (by omega)
  refine (i_astore <| i_push <| i_istore <| i_end ?_)
  exact h28 _ _ he.symm hB0.symm
end RUN
