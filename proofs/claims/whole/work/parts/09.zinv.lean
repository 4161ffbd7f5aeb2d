section INV
variable {N n i : Nat} {S : GS} {R : RS} {m : Msg}
def okE (e : Ent) : Prop := ∃ c : Nat, c < 4 ∧ e.1 = nI c
def okL (es : List Ent) : Prop := es.length ≤ 24 ∧ ∀ e, e ∈ es → okE e
def vw (n : Nat) (x : Int32) : Prop := ∃ v : Nat, v ≤ n ∧ x = nI v
def InvM (N n : Nat) (m : Msg) : Prop := mS m < N ∧ mD m < N ∧ mS m ≠ mD m ∧ (∃ k : Nat, 1 ≤ k ∧ k ≤ 8 ∧ mK m = nI k) ∧ vw n (mV m) ∧ vw n (mL m) ∧ okL (mG m) ∧ b24 (mC m)
def KO (N n i : Nat) (km : KM) : Prop := ∀ t m, t < N → km t = some m → InvM N n m ∧ mS m = t ∧ mD m = i
def InvR (N n i : Nat) (R : RS) : Prop := (∃ k : Nat, k ≤ 3 ∧ rS R = nI k) ∧ vw n (rV R) ∧ vw n (rL R) ∧ okL (rG R) ∧ b24 (rC R) ∧ (∀ t, t < N → b24 (rA R t)) ∧ rA R i = 0 ∧ (rP R = 0 ∨ rP R = 1) ∧ KO N n i (rO R) ∧ KO N n i (rE R) ∧ KO N n i (rR R) ∧ (¬ rS R = 1 → ∀ t, t < N → rO R t = none ∧ rE R t = none) ∧ (¬ rS R = 2 → ∀ t, t < N → rR R t = none)
def Inv (N n : Nat) (S : GS) : Prop := (∀ i, i < N → InvR N n i (gR S i)) ∧ (∀ k, k < gT S → InvM N n (gM S k)) ∧ ∃ l : Nat, l ≤ gT S ∧ gL S + 1 = nI l
theorem vw.up {n' : Nat} {x : Int32} (h : vw n x) (hn : n ≤ n') : vw n' x := by
  obtain ⟨v, h1, h2⟩ := h
  exact ⟨v, by omega, h2⟩
theorem vw_0 : vw n 0 := ⟨0, Nat.zero_le _, rfl⟩
theorem vw_mx {x y : Int32} (hx : vw n x) (hy : vw n y) : vw n (mx x y) := by
  unfold mx
  split
  · exact hy
  · exact hx
theorem InvM.up {n' : Nat} (h : InvM N n m) (hn : n ≤ n') : InvM N n' m := by
  obtain ⟨h1, h2, h3, h4, h5, h6, h7⟩ := h
  exact ⟨h1, h2, h3, h4, h5.up hn, h6.up hn, h7⟩
theorem KO.up {n' : Nat} {km : KM} (h : KO N n i km) (hn : n ≤ n') : KO N n' i km := fun t m ht hm => ⟨(h t m ht hm).1.up hn, (h t m ht hm).2⟩
theorem InvR.up {n' : Nat} (h : InvR N n i R) (hn : n ≤ n') : InvR N n' i R := by
  obtain ⟨h1, h2, h3, h4, h5, h6, h7, h8, h9, h10, h11, h12⟩ := h
  exact ⟨h1, h2.up hn, h3.up hn, h4, h5, h6, h7, h8, h9.up hn, h10.up hn, h11.up hn, h12⟩
theorem Inv.up {n' : Nat} (h : Inv N n S) (hn : n ≤ n') : Inv N n' S := ⟨fun i hi => (h.1 i hi).up hn, fun k hk => (h.2.1 k hk).up hn, h.2.2⟩
theorem KO_no : KO N n i noK := fun t m _ h => by simp [noK] at h
theorem KO_drp {km : KM} {v : Nat → Int32} (h : KO N n i km) : KO N n i (drp km v) := by
  intro t m ht hm
  cases hk : km t with
  | none => simp [drp, hk] at hm
  | some m' =>
    have hm' : (if mX m' t < v t then none else some m') = some m := by simpa [drp, hk] using hm
    split at hm'
    · cases hm'
    · cases hm'
      exact h t _ ht hk
theorem KO_put {km : KM} (h : KO N n i km) (hm : InvM N n m) (hd : mD m = i) : KO N n i (va_up km (mS m) (some m)) := by
  intro t m' ht hm'
  by_cases e : t = mS m
  · subst e
    rw [va_s] at hm'
    cases hm'
    exact ⟨hm, rfl, hd⟩
  · rw [va_n e] at hm'
    exact h t m' ht hm'
theorem inv_rep (h : Inv N n S) (hR : InvR N n i R) : Inv N n (g_rep S i R) := by
  refine ⟨fun j hj => ?_, h.2.1, h.2.2⟩
  show InvR N n j (va_up (gR S) i R j)
  by_cases e : j = i
  · subst e
    rw [va_s]
    exact hR
  · rw [va_n e]
    exact h.1 j hj
theorem inv_mk {kind : Int32} {d k : Nat} (hR : InvR N n i R) (hi : i < N) (hd : d < N) (hne : i ≠ d) (hk : 1 ≤ k ∧ k ≤ 8 ∧ kind = nI k) : InvM N n (mkM R i kind d) := by
  obtain ⟨h1, h2, h3, h4, h5, h6⟩ := hR
  exact ⟨hi, hd, hne, ⟨k, hk⟩, h2, h3, h4, h5⟩
theorem inv_send {kind : Int32} {d k : Nat} (h : Inv N n S) (hi : i < N) (hd : d < N) (hne : i ≠ d) (hk : 1 ≤ k ∧ k ≤ 8 ∧ kind = nI k) : Inv N n (g_send S i kind d) := by
  refine ⟨h.1, fun j hj => ?_, ?_⟩
  · show InvM N n (va_up (gM S) (gT S) (mkM (gR S i) i kind d) j)
    have hj' : j < gT S + 1 := hj
    by_cases e : j = gT S
    · rw [e, va_s]
      exact inv_mk (h.1 i hi) hi hd hne hk
    · rw [va_n e]
      exact h.2.1 j (by omega)
  · obtain ⟨l, h1, h2⟩ := h.2.2
    exact ⟨l, Nat.le_succ_of_le h1, h2⟩
theorem inv_all {kind : Int32} {k : Nat} (h : Inv N n S) (hi : i < N) (hk : 1 ≤ k ∧ k ≤ 8 ∧ kind = nI k) : ∀ t, t ≤ N → Inv N n (g_all S i kind t)
  | 0, _ => h
  | t + 1, ht => by
    have ih := inv_all h hi hk t (by omega)
    rw [g_all]
    split
    · exact ih
    · rename_i hne
      exact inv_send ih hi (by omega) (fun e => hne e.symm) hk
theorem inv_ans {es : List Ent} (h : Inv N n S) : Inv N n (g_ans S es) := by
  unfold g_ans
  split
  · exact h
  · exact h
theorem inv_anss {es : List Ent} : ∀ {k : Nat} {c : Int32} {S : GS}, Inv N n S → Inv N n (g_anss es k c S)
  | 0, _, _, h => h
  | k + 1, c, S, h => inv_anss (k := k) (inv_ans h)
theorem okL_hd {es : List Ent} (h : okL es) : okE (hd es) := by
  cases es with
  | nil => exact ⟨0, by omega, rfl⟩
  | cons e es => exact h.2 e List.mem_cons_self
theorem inv_normal {v c : Int32} {lg : List Ent} (hR : InvR N n i R) (hv : vw n v) (hl : okL lg) (hc : b24 c) : InvR N n i (r_normal R v lg c) := by
  obtain ⟨h1, h2, h3, h4, h5, h6, h7, h8, h9, h10, h11, h12, h13⟩ := hR
  exact ⟨⟨0, by omega, rfl⟩, hv, hv, hl, hc, h6, h7, h8, KO_no, KO_no, KO_no, fun _ _ _ => ⟨rfl, rfl⟩, fun _ _ _ => rfl⟩
theorem inv_raise {w : Nat → Int32} (hR : InvR N n i R) : InvR N n i (r_raise R w) := by
  obtain ⟨h1, h2, h3, h4, h5, h6, h7, h8, h9, h10, h11, h12, h13⟩ := hR
  refine ⟨h1, h2, h3, h4, h5, h6, h7, h8, KO_drp h9, KO_drp h10, KO_drp h11, fun h t ht => ?_, fun h t ht => ?_⟩
  · have := h12 h t ht
    exact ⟨by show drp _ _ t = none; simp [drp, this.1], by show drp _ _ t = none; simp [drp, this.2]⟩
  · have := h13 h t ht
    show drp _ _ t = none
    simp [drp, this]
theorem inv_start {v : Int32} (hR : InvR N n i R) (hv : vw n v) : InvR N n i (r_start R v) := by
  obtain ⟨h1, h2, h3, h4, h5, h6, h7, h8, h9, h10, h11, h12, h13⟩ := hR
  exact ⟨⟨1, by omega, rfl⟩, hv, h3, h4, h5, h6, h7, Or.inl rfl, KO_no, KO_no, KO_no, fun h => absurd rfl h, fun _ _ _ => rfl⟩
theorem inv_gstart {v : Int32} (h : Inv N n S) (hi : i < N) (hv : vw n v) : Inv N n (g_start N S i v) :=
  inv_all (k := 5) (inv_rep h (inv_start (h.1 i hi) hv)) hi ⟨by omega, by omega, rfl⟩ N (Nat.le_refl _)
theorem inv_put (hR : InvR N n i R) (hm : okL (mG m)) : InvR N n i (r_put R m) := by
  unfold r_put
  split
  · rename_i he
    obtain ⟨h1, h2, h3, h4, h5⟩ := hR
    have hl : (mG m).length = (rG R).length + 1 := (nI_eq (by have := hm.1; omega) (by have := h4.1; omega)).mp (he.trans (nI_succ _).symm)
    refine ⟨h1, h2, h3, ⟨?_, fun e he' => ?_⟩, h5⟩
    · show (rG R).length + 1 ≤ 24
      rw [← hl]
      exact hm.1
    · rcases List.mem_cons.mp he' with rfl | h
      · exact okL_hd hm
      · exact h4.2 e h
  · exact hR
theorem inv_com {c : Int32} (hR : InvR N n i R) (hc : b24 c) : InvR N n i (r_com R c) := by
  obtain ⟨h1, h2, h3, h4, h5, h6⟩ := hR
  exact ⟨h1, h2, h3, h4, hc, h6⟩
theorem inv_prep (h : Inv N n S) (hi : i < N) (hm : InvM N n m) (hd : mD m = i) : Inv N n (g_prep S i m) := by
  have hne : i ≠ mS m := fun e => hm.2.2.1 (e.symm.trans hd.symm)
  unfold g_prep
  split
  · exact h
  · split
    · exact inv_send (k := 3) h hi hm.1 hne ⟨by omega, by omega, rfl⟩
    · have hp := inv_put (h.1 i hi) hm.2.2.2.2.2.2.1
      exact inv_send (k := 2) (inv_rep h (inv_com hp (b24_mx (h.1 i hi).2.2.2.2.1 (b24_mn hm.2.2.2.2.2.2.2 ⟨_, hp.2.2.2.1.1, rfl⟩)))) hi hm.1 hne ⟨by omega, by omega, rfl⟩
theorem inv_ack (hR : InvR N n i R) (hm : InvM N n m) (hd : mD m = i) : InvR N n i (r_ack R m) := by
  obtain ⟨h1, h2, h3, h4, h5, h6, h7, h8, h9⟩ := hR
  refine ⟨h1, h2, h3, h4, h5, fun t ht => ?_, ?_, h8, h9⟩
  · show b24 (va_up (rA R) (mS m) (mx (rA R (mS m)) (nI (mG m).length)) t)
    by_cases e : t = mS m
    · rw [e, va_s]
      exact b24_mx (h6 _ hm.1) ⟨_, hm.2.2.2.2.2.2.1.1, rfl⟩
    · rw [va_n e]
      exact h6 t ht
  · show va_up (rA R) (mS m) (mx (rA R (mS m)) (nI (mG m).length)) i = 0
    rw [va_n (fun e => hm.2.2.1 (e.symm.trans hd.symm))]
    exact h7
theorem inv_ok (h : Inv N n S) (hi : i < N) (hm : InvM N n m) (hd : mD m = i) : Inv N n (g_ok N S i m) := by
  unfold g_ok
  split
  · exact h
  · have ha := inv_ack (h.1 i hi) hm hd
    exact inv_anss (inv_rep h (inv_com ha (b24_akb (h.1 i hi).2.2.2.2.1 ha.2.2.2.2.2.1 N (Nat.le_refl _))))
theorem prim_lt {v : Int32} (hN : N = 3 ∨ N = 5) (hv : vw n v) (hn : n < 2 ^ 30) : prim N v < N ∧ fmod v (nI N) = nI (prim N v) := by
  obtain ⟨k, hk, rfl⟩ := hv
  have h1 : fmod (nI k) (nI N) = nI (k % N) := fm_N (by omega) hN
  have h2 : k % N < N := Nat.mod_lt _ (by omega)
  have h3 : prim N (nI k) = k % N := by rw [prim, h1]; exact nI_clamp (by omega)
  rw [h3]
  exact ⟨h2, h1⟩
theorem inv_state (hN : N = 3 ∨ N = 5) (hn : n < 2 ^ 30) (h : Inv N n S) (hi : i < N) (hm : InvM N n m) : Inv N n (g_state N S i m) := by
  unfold g_state
  split
  · exact h
  · rename_i hne
    split
    · obtain ⟨p1, p2⟩ := prim_lt hN hm.2.2.2.2.1 hn
      refine inv_send (k := 2) (inv_rep h (inv_normal (h.1 i hi) hm.2.2.2.2.1 hm.2.2.2.2.2.2.1 (b24_mx (h.1 i hi).2.2.2.2.1 hm.2.2.2.2.2.2.2))) hi p1 (fun e => hne ?_) ⟨by omega, by omega, rfl⟩
      rw [p2, ← e]
    · exact h
theorem inv_join (h : Inv N n S) (hi : i < N) (hm : InvM N n m) : Inv N n (g_join N S i m) := by
  unfold g_join
  split
  · exact inv_gstart h hi hm.2.2.2.2.1
  · exact h
theorem inv_vote (hN : N = 3 ∨ N = 5) (hn : n < 2 ^ 30) (h : Inv N n S) (hi : i < N) (hm : InvM N n m) (hd : mD m = i) (hs : rS (gR S i) = 1) : Inv N n (g_vote N S i m) := by
  have hR := h.1 i hi
  have hv : InvR N n i (r_vote (gR S i) m) := by
    obtain ⟨h1, h2, h3, h4, h5, h6, h7, h8, h9, h10, h11, h12, h13⟩ := hR
    exact ⟨h1, h2, h3, h4, h5, h6, h7, h8, KO_put h9 hm hd, h10, h11, fun q => absurd hs q, h13⟩
  have h1 := inv_rep h hv
  unfold g_vote
  split
  · rename_i hc
    obtain ⟨p1, p2⟩ := prim_lt hN hR.2.1 hn
    have h2 := inv_send (k := 6) (kind := 6) h1 hi p1 (fun e => hc.1 (by rw [p2, ← e])) ⟨by omega, by omega, rfl⟩
    refine inv_rep h2 ?_
    obtain ⟨h1, h2, h3, h4, h5, h6, h7, h8, h9⟩ := hv
    exact ⟨h1, h2, h3, h4, h5, h6, h7, Or.inr rfl, h9⟩
  · exact h1
theorem bst_ok {k : KM} {b0 : List Ent × Int32 × Int32} (h1 : okL b0.1) (h2 : b24 b0.2.2) (hk : KO N n i k) : ∀ t, t ≤ N → okL (bst k b0 t).1 ∧ b24 (bst k b0 t).2.2
  | 0, _ => ⟨h1, h2⟩
  | t + 1, ht => by
    have ih := bst_ok h1 h2 hk t (by omega)
    cases hkt : k t with
    | none =>
      rw [bst_n hkt]
      exact ih
    | some m =>
      have hm := (hk t m (by omega) hkt).1
      have hb := b24_mx ih.2 hm.2.2.2.2.2.2.2
      by_cases hc : (bst k b0 t).2.1 < mL m ∨ (mL m = (bst k b0 t).2.1 ∧ nI (bst k b0 t).1.length < nI (mG m).length)
      · rw [bst_p hkt hc]
        exact ⟨hm.2.2.2.2.2.2.1, hb⟩
      · rw [bst_m hkt hc]
        exact ⟨ih.1, hb⟩
theorem inv_paper (h : Inv N n S) (hi : i < N) (hm : InvM N n m) (hd : mD m = i) (hs : rS (gR S i) = 1) : Inv N n (g_paper N S i m) := by
  have hR := h.1 i hi
  have hv : InvR N n i (r_pap (gR S i) m) := by
    obtain ⟨h1, h2, h3, h4, h5, h6, h7, h8, h9, h10, h11, h12, h13⟩ := hR
    exact ⟨h1, h2, h3, h4, h5, h6, h7, h8, h9, KO_put h10 hm hd, h11, fun q => absurd hs q, h13⟩
  unfold g_paper
  split
  · have hp : InvR N n i (r_primary (r_pap (gR S i) m) N) := by
      obtain ⟨h1, h2, h3, h4, h5, h6, h7, h8, h9, h10, h11, h12, h13⟩ := hv
      obtain ⟨b1, b2⟩ := bst_ok (b0 := (rG (r_pap (gR S i) m), rL (r_pap (gR S i) m), rC (r_pap (gR S i) m))) h4 h5 h10 N (Nat.le_refl _)
      exact ⟨⟨0, by omega, rfl⟩, h2, h2, b1, b2, fun _ _ => b24_0, rfl, h8, KO_no, KO_no, KO_no, fun _ _ _ => ⟨rfl, rfl⟩, fun _ _ _ => rfl⟩
    exact inv_all (k := 4) (inv_rep h hp) hi ⟨by omega, by omega, rfl⟩ N (Nat.le_refl _)
  · exact inv_rep h hv
theorem vw_gvw {k : KM} (hk : KO N n i k) : ∀ t, t ≤ N → vw n (gvw k t)
  | 0, _ => vw_0
  | t + 1, ht => by
    have ih := vw_gvw hk t (by omega)
    rw [gvw]
    cases hkt : k t with
    | none => exact ih
    | some m => exact vw_mx ih (hk t m (by omega) hkt).1.2.2.2.2.1
theorem inv_resp (hN : N = 3 ∨ N = 5) (hn : n < 2 ^ 30) (h : Inv N n S) (hi : i < N) (hm : InvM N n m) (hd : mD m = i) (hs : rS (gR S i) = 2) : Inv N n (g_rep S i (r_reco N (r_resp (gR S i) m))) := by
  have hR := h.1 i hi
  have hv : InvR N n i (r_resp (gR S i) m) := by
    obtain ⟨h1, h2, h3, h4, h5, h6, h7, h8, h9, h10, h11, h12, h13⟩ := hR
    exact ⟨h1, h2, h3, h4, h5, h6, h7, h8, h9, h10, KO_put h11 hm hd, h12, fun q => absurd hs q⟩
  refine inv_rep h ?_
  have hg := vw_gvw hv.2.2.2.2.2.2.2.2.2.2.1 N (Nat.le_refl _)
  obtain ⟨p1, p2⟩ := prim_lt hN hg hn
  unfold r_reco
  split
  · exact hv
  · split
    · exact hv
    · rename_i L hL
      split
      · have hm' := (hv.2.2.2.2.2.2.2.2.2.2.1 _ L p1 hL).1
        exact inv_normal hv hg hm'.2.2.2.2.2.2.1 hm'.2.2.2.2.2.2.2
      · exact hv
theorem inv_reply {kind : Int32} {k : Nat} (h : Inv N n S) (hi : i < N) (hm : InvM N n m) (hd : mD m = i) (hk : 1 ≤ k ∧ k ≤ 8 ∧ kind = nI k) : Inv N n (g_reply S i m kind) := by
  unfold g_reply
  split
  · exact inv_send h hi hm.1 (fun e => hm.2.2.1 (e.symm.trans hd.symm)) hk
  · exact h
theorem inv_kind (hN : N = 3 ∨ N = 5) (hn : n < 2 ^ 30) (h : Inv N n S) (hi : i < N) (hm : InvM N n m) (hd : mD m = i) (hs : rS (gR S i) = 2 ↔ mK m = 8) : Inv N n (g_kind N S i m) := by
  unfold g_kind
  repeat' split
  · exact inv_prep h hi hm hd
  · exact inv_ok h hi hm hd
  · exact inv_reply (k := 4) h hi hm hd ⟨by omega, by omega, rfl⟩
  · exact inv_state hN hn h hi hm
  · rename_i hc
    exact inv_vote hN hn (inv_join h hi hm) hi hm hd hc.2
  · exact inv_join h hi hm
  · rename_i hc
    exact inv_paper (inv_join h hi hm) hi hm hd hc.2
  · exact inv_join h hi hm
  · exact inv_reply (k := 8) h hi hm hd ⟨by omega, by omega, rfl⟩
  · rename_i h8
    exact inv_resp hN hn h hi hm hd (hs.mpr h8)
  · exact h
theorem inv_recv (hN : N = 3 ∨ N = 5) (hn : n < 2 ^ 30) (h : Inv N n S) (hm : InvM N n m) : Inv N n (g_recv N S m).2 := by
  unfold g_recv
  split
  · exact h
  · rename_i hh
    split
    · exact h
    · have hh' := Classical.not_not.mp hh
      refine inv_kind hN hn (inv_rep h (inv_raise (h.1 _ hm.2.1))) hm.2.1 hm rfl ?_
      rw [g_rep_R]
      exact hh'.2
end INV
